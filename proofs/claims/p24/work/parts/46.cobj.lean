/-! The object of the class, as its constructor leaves it. -/
def k11a (S : zSt) (a : Nat) : zSt := kiniX6 (uN (uI (uR (uN S 13 120) a 0 (some (a + 1))) a 1 0) 6 0) (a + 2)
def k11b (S : zSt) (a : Nat) : zSt := kiniX4 (uN (uR S a 2 (some (a + 2))) 4 0) (a + 9)
def k11d (S : zSt) (a : Nat) : zSt := kiniX8 (uN (uR S a 3 (some (a + 9))) 8 0) (a + 13)
def k11e (S : zSt) (a : Nat) : zSt := uR (uN (uR S a 4 (some (a + 13))) 17 2) a 5 (some (a + 26))
set_option maxRecDepth 20000 in
theorem k11a_z {S : zSt} {a : Nat} (h : S.1.1 = a + 1) : (k11a S a).1.1 = a + 9 := by
  obtain ⟨⟨n, tg, ln, rf⟩, f⟩ := S
  have h : n = a + 1 := h
  subst h
  rfl
set_option maxRecDepth 20000 in
theorem k11a_t1 {S : zSt} {a : Nat} (h : S.1.1 = a + 1) : (k11a S a).1.2.1 (a + 1) = 13 ∧ (k11a S a).1.2.2.1 (a + 1) = 120 := by
  obtain ⟨⟨n, tg, ln, rf⟩, f⟩ := S
  have h : n = a + 1 := h
  subst h
  constructor <;> simp [k11a, kiniX8, kiniX10, kiniX3, kiniX4, kiniX5, kiniX6, uR, uN, uI, zpR, znG, znI, zup, zu1, Nat.add_assoc]
set_option maxRecDepth 20000 in
theorem k11a_n1 {k : Nat} {S : zSt} {a : Nat} (h : S.1.1 = a + 1)  : (k11a S a).1.2.2.2 (a + 1) k = none := by
  obtain ⟨⟨n, tg, ln, rf⟩, f⟩ := S
  have h : n = a + 1 := h
  subst h
  simp [k11a, kiniX8, kiniX10, kiniX3, kiniX4, kiniX5, kiniX6, uR, uN, uI, zpR, znG, znI, zup, zu1, Nat.add_assoc]
set_option maxRecDepth 20000 in
theorem k11a_f1 {k : Nat} {S : zSt} {a : Nat} (h : S.1.1 = a + 1) : (k11a S a).2 (a + 1) k = 0 := by
  obtain ⟨⟨n, tg, ln, rf⟩, f⟩ := S
  have h : n = a + 1 := h
  subst h
  simp [k11a, kiniX8, kiniX10, kiniX3, kiniX4, kiniX5, kiniX6, uR, uN, uI, zpR, znG, znI, zup, zu1, Nat.add_assoc]
set_option maxRecDepth 20000 in
theorem k11a_t2 {S : zSt} {a : Nat} (h : S.1.1 = a + 1) : (k11a S a).1.2.1 (a + 2) = 6 ∧ (k11a S a).1.2.2.1 (a + 2) = 0 := by
  obtain ⟨⟨n, tg, ln, rf⟩, f⟩ := S
  have h : n = a + 1 := h
  subst h
  constructor <;> simp [k11a, kiniX8, kiniX10, kiniX3, kiniX4, kiniX5, kiniX6, uR, uN, uI, zpR, znG, znI, zup, zu1, Nat.add_assoc]
set_option maxRecDepth 20000 in
theorem k11a_r2_0 {S : zSt} {a : Nat} (h : S.1.1 = a + 1) : (k11a S a).1.2.2.2 (a + 2) 0 = some (a + 3) := by
  obtain ⟨⟨n, tg, ln, rf⟩, f⟩ := S
  have h : n = a + 1 := h
  subst h
  simp [k11a, kiniX8, kiniX10, kiniX3, kiniX4, kiniX5, kiniX6, uR, uN, uI, zpR, znG, znI, zup, zu1, Nat.add_assoc]
set_option maxRecDepth 20000 in
theorem k11a_r2_4 {S : zSt} {a : Nat} (h : S.1.1 = a + 1) : (k11a S a).1.2.2.2 (a + 2) 4 = some (a + 4) := by
  obtain ⟨⟨n, tg, ln, rf⟩, f⟩ := S
  have h : n = a + 1 := h
  subst h
  simp [k11a, kiniX8, kiniX10, kiniX3, kiniX4, kiniX5, kiniX6, uR, uN, uI, zpR, znG, znI, zup, zu1, Nat.add_assoc]
set_option maxRecDepth 20000 in
theorem k11a_r2_5 {S : zSt} {a : Nat} (h : S.1.1 = a + 1) : (k11a S a).1.2.2.2 (a + 2) 5 = some (a + 5) := by
  obtain ⟨⟨n, tg, ln, rf⟩, f⟩ := S
  have h : n = a + 1 := h
  subst h
  simp [k11a, kiniX8, kiniX10, kiniX3, kiniX4, kiniX5, kiniX6, uR, uN, uI, zpR, znG, znI, zup, zu1, Nat.add_assoc]
set_option maxRecDepth 20000 in
theorem k11a_r2_6 {S : zSt} {a : Nat} (h : S.1.1 = a + 1) : (k11a S a).1.2.2.2 (a + 2) 6 = some (a + 6) := by
  obtain ⟨⟨n, tg, ln, rf⟩, f⟩ := S
  have h : n = a + 1 := h
  subst h
  simp [k11a, kiniX8, kiniX10, kiniX3, kiniX4, kiniX5, kiniX6, uR, uN, uI, zpR, znG, znI, zup, zu1, Nat.add_assoc]
set_option maxRecDepth 20000 in
theorem k11a_r2_7 {S : zSt} {a : Nat} (h : S.1.1 = a + 1) : (k11a S a).1.2.2.2 (a + 2) 7 = some (a + 7) := by
  obtain ⟨⟨n, tg, ln, rf⟩, f⟩ := S
  have h : n = a + 1 := h
  subst h
  simp [k11a, kiniX8, kiniX10, kiniX3, kiniX4, kiniX5, kiniX6, uR, uN, uI, zpR, znG, znI, zup, zu1, Nat.add_assoc]
set_option maxRecDepth 20000 in
theorem k11a_r2_8 {S : zSt} {a : Nat} (h : S.1.1 = a + 1) : (k11a S a).1.2.2.2 (a + 2) 8 = some (a + 8) := by
  obtain ⟨⟨n, tg, ln, rf⟩, f⟩ := S
  have h : n = a + 1 := h
  subst h
  simp [k11a, kiniX8, kiniX10, kiniX3, kiniX4, kiniX5, kiniX6, uR, uN, uI, zpR, znG, znI, zup, zu1, Nat.add_assoc]
set_option maxRecDepth 20000 in
theorem k11a_n2 {k : Nat} {S : zSt} {a : Nat} (h : S.1.1 = a + 1) (h0 : k ≠ 0) (h4 : k ≠ 4) (h5 : k ≠ 5) (h6 : k ≠ 6) (h7 : k ≠ 7) (h8 : k ≠ 8) : (k11a S a).1.2.2.2 (a + 2) k = none := by
  obtain ⟨⟨n, tg, ln, rf⟩, f⟩ := S
  have h : n = a + 1 := h
  subst h
  simp [k11a, kiniX8, kiniX10, kiniX3, kiniX4, kiniX5, kiniX6, uR, uN, uI, zpR, znG, znI, zup, zu1, Nat.add_assoc, h0, h4, h5, h6, h7, h8]
set_option maxRecDepth 20000 in
theorem k11a_f2 {k : Nat} {S : zSt} {a : Nat} (h : S.1.1 = a + 1) : (k11a S a).2 (a + 2) k = 0 := by
  obtain ⟨⟨n, tg, ln, rf⟩, f⟩ := S
  have h : n = a + 1 := h
  subst h
  simp [k11a, kiniX8, kiniX10, kiniX3, kiniX4, kiniX5, kiniX6, uR, uN, uI, zpR, znG, znI, zup, zu1, Nat.add_assoc]
set_option maxRecDepth 20000 in
theorem k11a_t3 {S : zSt} {a : Nat} (h : S.1.1 = a + 1) : (k11a S a).1.2.1 (a + 3) = 14 ∧ (k11a S a).1.2.2.1 (a + 3) = 120 := by
  obtain ⟨⟨n, tg, ln, rf⟩, f⟩ := S
  have h : n = a + 1 := h
  subst h
  constructor <;> simp [k11a, kiniX8, kiniX10, kiniX3, kiniX4, kiniX5, kiniX6, uR, uN, uI, zpR, znG, znI, zup, zu1, Nat.add_assoc]
set_option maxRecDepth 20000 in
theorem k11a_n3 {k : Nat} {S : zSt} {a : Nat} (h : S.1.1 = a + 1)  : (k11a S a).1.2.2.2 (a + 3) k = none := by
  obtain ⟨⟨n, tg, ln, rf⟩, f⟩ := S
  have h : n = a + 1 := h
  subst h
  simp [k11a, kiniX8, kiniX10, kiniX3, kiniX4, kiniX5, kiniX6, uR, uN, uI, zpR, znG, znI, zup, zu1, Nat.add_assoc]
set_option maxRecDepth 20000 in
theorem k11a_f3 {k : Nat} {S : zSt} {a : Nat} (h : S.1.1 = a + 1) : (k11a S a).2 (a + 3) k = 0 := by
  obtain ⟨⟨n, tg, ln, rf⟩, f⟩ := S
  have h : n = a + 1 := h
  subst h
  simp [k11a, kiniX8, kiniX10, kiniX3, kiniX4, kiniX5, kiniX6, uR, uN, uI, zpR, znG, znI, zup, zu1, Nat.add_assoc]
set_option maxRecDepth 20000 in
theorem k11a_t4 {S : zSt} {a : Nat} (h : S.1.1 = a + 1) : (k11a S a).1.2.1 (a + 4) = 14 ∧ (k11a S a).1.2.2.1 (a + 4) = 121 := by
  obtain ⟨⟨n, tg, ln, rf⟩, f⟩ := S
  have h : n = a + 1 := h
  subst h
  constructor <;> simp [k11a, kiniX8, kiniX10, kiniX3, kiniX4, kiniX5, kiniX6, uR, uN, uI, zpR, znG, znI, zup, zu1, Nat.add_assoc]
set_option maxRecDepth 20000 in
theorem k11a_n4 {k : Nat} {S : zSt} {a : Nat} (h : S.1.1 = a + 1)  : (k11a S a).1.2.2.2 (a + 4) k = none := by
  obtain ⟨⟨n, tg, ln, rf⟩, f⟩ := S
  have h : n = a + 1 := h
  subst h
  simp [k11a, kiniX8, kiniX10, kiniX3, kiniX4, kiniX5, kiniX6, uR, uN, uI, zpR, znG, znI, zup, zu1, Nat.add_assoc]
set_option maxRecDepth 20000 in
theorem k11a_f4 {k : Nat} {S : zSt} {a : Nat} (h : S.1.1 = a + 1) : (k11a S a).2 (a + 4) k = 0 := by
  obtain ⟨⟨n, tg, ln, rf⟩, f⟩ := S
  have h : n = a + 1 := h
  subst h
  simp [k11a, kiniX8, kiniX10, kiniX3, kiniX4, kiniX5, kiniX6, uR, uN, uI, zpR, znG, znI, zup, zu1, Nat.add_assoc]
set_option maxRecDepth 20000 in
theorem k11a_t5 {S : zSt} {a : Nat} (h : S.1.1 = a + 1) : (k11a S a).1.2.1 (a + 5) = 13 ∧ (k11a S a).1.2.2.1 (a + 5) = 121 := by
  obtain ⟨⟨n, tg, ln, rf⟩, f⟩ := S
  have h : n = a + 1 := h
  subst h
  constructor <;> simp [k11a, kiniX8, kiniX10, kiniX3, kiniX4, kiniX5, kiniX6, uR, uN, uI, zpR, znG, znI, zup, zu1, Nat.add_assoc]
set_option maxRecDepth 20000 in
theorem k11a_n5 {k : Nat} {S : zSt} {a : Nat} (h : S.1.1 = a + 1)  : (k11a S a).1.2.2.2 (a + 5) k = none := by
  obtain ⟨⟨n, tg, ln, rf⟩, f⟩ := S
  have h : n = a + 1 := h
  subst h
  simp [k11a, kiniX8, kiniX10, kiniX3, kiniX4, kiniX5, kiniX6, uR, uN, uI, zpR, znG, znI, zup, zu1, Nat.add_assoc]
set_option maxRecDepth 20000 in
theorem k11a_f5 {k : Nat} {S : zSt} {a : Nat} (h : S.1.1 = a + 1) : (k11a S a).2 (a + 5) k = 0 := by
  obtain ⟨⟨n, tg, ln, rf⟩, f⟩ := S
  have h : n = a + 1 := h
  subst h
  simp [k11a, kiniX8, kiniX10, kiniX3, kiniX4, kiniX5, kiniX6, uR, uN, uI, zpR, znG, znI, zup, zu1, Nat.add_assoc]
set_option maxRecDepth 20000 in
theorem k11a_t6 {S : zSt} {a : Nat} (h : S.1.1 = a + 1) : (k11a S a).1.2.1 (a + 6) = 13 ∧ (k11a S a).1.2.2.1 (a + 6) = 121 := by
  obtain ⟨⟨n, tg, ln, rf⟩, f⟩ := S
  have h : n = a + 1 := h
  subst h
  constructor <;> simp [k11a, kiniX8, kiniX10, kiniX3, kiniX4, kiniX5, kiniX6, uR, uN, uI, zpR, znG, znI, zup, zu1, Nat.add_assoc]
set_option maxRecDepth 20000 in
theorem k11a_n6 {k : Nat} {S : zSt} {a : Nat} (h : S.1.1 = a + 1)  : (k11a S a).1.2.2.2 (a + 6) k = none := by
  obtain ⟨⟨n, tg, ln, rf⟩, f⟩ := S
  have h : n = a + 1 := h
  subst h
  simp [k11a, kiniX8, kiniX10, kiniX3, kiniX4, kiniX5, kiniX6, uR, uN, uI, zpR, znG, znI, zup, zu1, Nat.add_assoc]
set_option maxRecDepth 20000 in
theorem k11a_f6 {k : Nat} {S : zSt} {a : Nat} (h : S.1.1 = a + 1) : (k11a S a).2 (a + 6) k = 0 := by
  obtain ⟨⟨n, tg, ln, rf⟩, f⟩ := S
  have h : n = a + 1 := h
  subst h
  simp [k11a, kiniX8, kiniX10, kiniX3, kiniX4, kiniX5, kiniX6, uR, uN, uI, zpR, znG, znI, zup, zu1, Nat.add_assoc]
set_option maxRecDepth 20000 in
theorem k11a_t7 {S : zSt} {a : Nat} (h : S.1.1 = a + 1) : (k11a S a).1.2.1 (a + 7) = 13 ∧ (k11a S a).1.2.2.1 (a + 7) = 121 := by
  obtain ⟨⟨n, tg, ln, rf⟩, f⟩ := S
  have h : n = a + 1 := h
  subst h
  constructor <;> simp [k11a, kiniX8, kiniX10, kiniX3, kiniX4, kiniX5, kiniX6, uR, uN, uI, zpR, znG, znI, zup, zu1, Nat.add_assoc]
set_option maxRecDepth 20000 in
theorem k11a_n7 {k : Nat} {S : zSt} {a : Nat} (h : S.1.1 = a + 1)  : (k11a S a).1.2.2.2 (a + 7) k = none := by
  obtain ⟨⟨n, tg, ln, rf⟩, f⟩ := S
  have h : n = a + 1 := h
  subst h
  simp [k11a, kiniX8, kiniX10, kiniX3, kiniX4, kiniX5, kiniX6, uR, uN, uI, zpR, znG, znI, zup, zu1, Nat.add_assoc]
set_option maxRecDepth 20000 in
theorem k11a_f7 {k : Nat} {S : zSt} {a : Nat} (h : S.1.1 = a + 1) : (k11a S a).2 (a + 7) k = 0 := by
  obtain ⟨⟨n, tg, ln, rf⟩, f⟩ := S
  have h : n = a + 1 := h
  subst h
  simp [k11a, kiniX8, kiniX10, kiniX3, kiniX4, kiniX5, kiniX6, uR, uN, uI, zpR, znG, znI, zup, zu1, Nat.add_assoc]
set_option maxRecDepth 20000 in
theorem k11a_t8 {S : zSt} {a : Nat} (h : S.1.1 = a + 1) : (k11a S a).1.2.1 (a + 8) = 14 ∧ (k11a S a).1.2.2.1 (a + 8) = 121 := by
  obtain ⟨⟨n, tg, ln, rf⟩, f⟩ := S
  have h : n = a + 1 := h
  subst h
  constructor <;> simp [k11a, kiniX8, kiniX10, kiniX3, kiniX4, kiniX5, kiniX6, uR, uN, uI, zpR, znG, znI, zup, zu1, Nat.add_assoc]
set_option maxRecDepth 20000 in
theorem k11a_n8 {k : Nat} {S : zSt} {a : Nat} (h : S.1.1 = a + 1)  : (k11a S a).1.2.2.2 (a + 8) k = none := by
  obtain ⟨⟨n, tg, ln, rf⟩, f⟩ := S
  have h : n = a + 1 := h
  subst h
  simp [k11a, kiniX8, kiniX10, kiniX3, kiniX4, kiniX5, kiniX6, uR, uN, uI, zpR, znG, znI, zup, zu1, Nat.add_assoc]
set_option maxRecDepth 20000 in
theorem k11a_f8 {k : Nat} {S : zSt} {a : Nat} (h : S.1.1 = a + 1) : (k11a S a).2 (a + 8) k = 0 := by
  obtain ⟨⟨n, tg, ln, rf⟩, f⟩ := S
  have h : n = a + 1 := h
  subst h
  simp [k11a, kiniX8, kiniX10, kiniX3, kiniX4, kiniX5, kiniX6, uR, uN, uI, zpR, znG, znI, zup, zu1, Nat.add_assoc]
set_option maxRecDepth 20000 in
theorem k11a_old {y : Nat} {S : zSt} {a : Nat} (h : S.1.1 = a + 1) (hy : y < a + 1) (ha : y ≠ a) : (k11a S a).1.2.2.2 y = S.1.2.2.2 y ∧ (k11a S a).2 y = S.2 y ∧ (k11a S a).1.2.1 y = S.1.2.1 y ∧ (k11a S a).1.2.2.1 y = S.1.2.2.1 y := by
  obtain ⟨⟨n, tg, ln, rf⟩, f⟩ := S
  have h : n = a + 1 := h
  subst h
  have e : ∀ j, 1 ≤ j → ¬ y = a + j := fun j _ => by omega
  refine ⟨?_, ?_, ?_, ?_⟩ <;> (try funext k) <;> simp [k11a, kiniX8, kiniX10, kiniX3, kiniX4, kiniX5, kiniX6, uR, uN, uI, zpR, znG, znI, zup, zu1, Nat.add_assoc, ha, e]
set_option maxRecDepth 20000 in
theorem k11a_own {S : zSt} {a : Nat} (h : S.1.1 = a + 1) : (k11a S a).1.2.2.2 a 0 = some (a + 1) ∧ (∀ k, k ≠ 0 → (k11a S a).1.2.2.2 a k = S.1.2.2.2 a k) ∧ (∀ k, k ≠ 1 → (k11a S a).2 a k = S.2 a k) ∧ ((k11a S a).2 a 1 = S.2 a 1 ∨ (k11a S a).2 a 1 = 0) ∧ (k11a S a).1.2.1 a = S.1.2.1 a ∧ (k11a S a).1.2.2.1 a = S.1.2.2.1 a := by
  obtain ⟨⟨n, tg, ln, rf⟩, f⟩ := S
  have h : n = a + 1 := h
  subst h
  refine ⟨?_, ?_, ?_, ?_, ?_, ?_⟩
  · simp [k11a, kiniX8, kiniX10, kiniX3, kiniX4, kiniX5, kiniX6, uR, uN, uI, zpR, znG, znI, zup, zu1, Nat.add_assoc]
  · intro k h0
    simp [k11a, kiniX8, kiniX10, kiniX3, kiniX4, kiniX5, kiniX6, uR, uN, uI, zpR, znG, znI, zup, zu1, Nat.add_assoc, h0]
  · intro k h1
    simp [k11a, kiniX8, kiniX10, kiniX3, kiniX4, kiniX5, kiniX6, uR, uN, uI, zpR, znG, znI, zup, zu1, Nat.add_assoc, h1]
  · simp [k11a, kiniX8, kiniX10, kiniX3, kiniX4, kiniX5, kiniX6, uR, uN, uI, zpR, znG, znI, zup, zu1, Nat.add_assoc]
  · simp [k11a, kiniX8, kiniX10, kiniX3, kiniX4, kiniX5, kiniX6, uR, uN, uI, zpR, znG, znI, zup, zu1, Nat.add_assoc]
  · simp [k11a, kiniX8, kiniX10, kiniX3, kiniX4, kiniX5, kiniX6, uR, uN, uI, zpR, znG, znI, zup, zu1, Nat.add_assoc]
set_option maxRecDepth 20000 in
theorem k11b_z {S : zSt} {a : Nat} (h : S.1.1 = a + 9) : (k11b S a).1.1 = a + 13 := by
  obtain ⟨⟨n, tg, ln, rf⟩, f⟩ := S
  have h : n = a + 9 := h
  subst h
  rfl
set_option maxRecDepth 20000 in
theorem k11b_t9 {S : zSt} {a : Nat} (h : S.1.1 = a + 9) : (k11b S a).1.2.1 (a + 9) = 4 ∧ (k11b S a).1.2.2.1 (a + 9) = 0 := by
  obtain ⟨⟨n, tg, ln, rf⟩, f⟩ := S
  have h : n = a + 9 := h
  subst h
  constructor <;> simp [k11b, kiniX8, kiniX10, kiniX3, kiniX4, kiniX5, kiniX6, uR, uN, uI, zpR, znG, znI, zup, zu1, Nat.add_assoc]
set_option maxRecDepth 20000 in
theorem k11b_r9_0 {S : zSt} {a : Nat} (h : S.1.1 = a + 9) : (k11b S a).1.2.2.2 (a + 9) 0 = some (a + 10) := by
  obtain ⟨⟨n, tg, ln, rf⟩, f⟩ := S
  have h : n = a + 9 := h
  subst h
  simp [k11b, kiniX8, kiniX10, kiniX3, kiniX4, kiniX5, kiniX6, uR, uN, uI, zpR, znG, znI, zup, zu1, Nat.add_assoc]
set_option maxRecDepth 20000 in
theorem k11b_r9_3 {S : zSt} {a : Nat} (h : S.1.1 = a + 9) : (k11b S a).1.2.2.2 (a + 9) 3 = some (a + 11) := by
  obtain ⟨⟨n, tg, ln, rf⟩, f⟩ := S
  have h : n = a + 9 := h
  subst h
  simp [k11b, kiniX8, kiniX10, kiniX3, kiniX4, kiniX5, kiniX6, uR, uN, uI, zpR, znG, znI, zup, zu1, Nat.add_assoc]
set_option maxRecDepth 20000 in
theorem k11b_r9_4 {S : zSt} {a : Nat} (h : S.1.1 = a + 9) : (k11b S a).1.2.2.2 (a + 9) 4 = some (a + 12) := by
  obtain ⟨⟨n, tg, ln, rf⟩, f⟩ := S
  have h : n = a + 9 := h
  subst h
  simp [k11b, kiniX8, kiniX10, kiniX3, kiniX4, kiniX5, kiniX6, uR, uN, uI, zpR, znG, znI, zup, zu1, Nat.add_assoc]
set_option maxRecDepth 20000 in
theorem k11b_n9 {k : Nat} {S : zSt} {a : Nat} (h : S.1.1 = a + 9) (h0 : k ≠ 0) (h3 : k ≠ 3) (h4 : k ≠ 4) : (k11b S a).1.2.2.2 (a + 9) k = none := by
  obtain ⟨⟨n, tg, ln, rf⟩, f⟩ := S
  have h : n = a + 9 := h
  subst h
  simp [k11b, kiniX8, kiniX10, kiniX3, kiniX4, kiniX5, kiniX6, uR, uN, uI, zpR, znG, znI, zup, zu1, Nat.add_assoc, h0, h3, h4]
set_option maxRecDepth 20000 in
theorem k11b_f9 {k : Nat} {S : zSt} {a : Nat} (h : S.1.1 = a + 9) : (k11b S a).2 (a + 9) k = 0 := by
  obtain ⟨⟨n, tg, ln, rf⟩, f⟩ := S
  have h : n = a + 9 := h
  subst h
  simp [k11b, kiniX8, kiniX10, kiniX3, kiniX4, kiniX5, kiniX6, uR, uN, uI, zpR, znG, znI, zup, zu1, Nat.add_assoc]
set_option maxRecDepth 20000 in
theorem k11b_t10 {S : zSt} {a : Nat} (h : S.1.1 = a + 9) : (k11b S a).1.2.1 (a + 10) = 13 ∧ (k11b S a).1.2.2.1 (a + 10) = 240 := by
  obtain ⟨⟨n, tg, ln, rf⟩, f⟩ := S
  have h : n = a + 9 := h
  subst h
  constructor <;> simp [k11b, kiniX8, kiniX10, kiniX3, kiniX4, kiniX5, kiniX6, uR, uN, uI, zpR, znG, znI, zup, zu1, Nat.add_assoc]
set_option maxRecDepth 20000 in
theorem k11b_n10 {k : Nat} {S : zSt} {a : Nat} (h : S.1.1 = a + 9)  : (k11b S a).1.2.2.2 (a + 10) k = none := by
  obtain ⟨⟨n, tg, ln, rf⟩, f⟩ := S
  have h : n = a + 9 := h
  subst h
  simp [k11b, kiniX8, kiniX10, kiniX3, kiniX4, kiniX5, kiniX6, uR, uN, uI, zpR, znG, znI, zup, zu1, Nat.add_assoc]
set_option maxRecDepth 20000 in
theorem k11b_f10 {k : Nat} {S : zSt} {a : Nat} (h : S.1.1 = a + 9) : (k11b S a).2 (a + 10) k = 0 := by
  obtain ⟨⟨n, tg, ln, rf⟩, f⟩ := S
  have h : n = a + 9 := h
  subst h
  simp [k11b, kiniX8, kiniX10, kiniX3, kiniX4, kiniX5, kiniX6, uR, uN, uI, zpR, znG, znI, zup, zu1, Nat.add_assoc]
set_option maxRecDepth 20000 in
theorem k11b_t11 {S : zSt} {a : Nat} (h : S.1.1 = a + 9) : (k11b S a).1.2.1 (a + 11) = 14 ∧ (k11b S a).1.2.2.1 (a + 11) = 240 := by
  obtain ⟨⟨n, tg, ln, rf⟩, f⟩ := S
  have h : n = a + 9 := h
  subst h
  constructor <;> simp [k11b, kiniX8, kiniX10, kiniX3, kiniX4, kiniX5, kiniX6, uR, uN, uI, zpR, znG, znI, zup, zu1, Nat.add_assoc]
set_option maxRecDepth 20000 in
theorem k11b_n11 {k : Nat} {S : zSt} {a : Nat} (h : S.1.1 = a + 9)  : (k11b S a).1.2.2.2 (a + 11) k = none := by
  obtain ⟨⟨n, tg, ln, rf⟩, f⟩ := S
  have h : n = a + 9 := h
  subst h
  simp [k11b, kiniX8, kiniX10, kiniX3, kiniX4, kiniX5, kiniX6, uR, uN, uI, zpR, znG, znI, zup, zu1, Nat.add_assoc]
set_option maxRecDepth 20000 in
theorem k11b_f11 {k : Nat} {S : zSt} {a : Nat} (h : S.1.1 = a + 9) : (k11b S a).2 (a + 11) k = 0 := by
  obtain ⟨⟨n, tg, ln, rf⟩, f⟩ := S
  have h : n = a + 9 := h
  subst h
  simp [k11b, kiniX8, kiniX10, kiniX3, kiniX4, kiniX5, kiniX6, uR, uN, uI, zpR, znG, znI, zup, zu1, Nat.add_assoc]
set_option maxRecDepth 20000 in
theorem k11b_t12 {S : zSt} {a : Nat} (h : S.1.1 = a + 9) : (k11b S a).1.2.1 (a + 12) = 13 ∧ (k11b S a).1.2.2.1 (a + 12) = 240 := by
  obtain ⟨⟨n, tg, ln, rf⟩, f⟩ := S
  have h : n = a + 9 := h
  subst h
  constructor <;> simp [k11b, kiniX8, kiniX10, kiniX3, kiniX4, kiniX5, kiniX6, uR, uN, uI, zpR, znG, znI, zup, zu1, Nat.add_assoc]
set_option maxRecDepth 20000 in
theorem k11b_n12 {k : Nat} {S : zSt} {a : Nat} (h : S.1.1 = a + 9)  : (k11b S a).1.2.2.2 (a + 12) k = none := by
  obtain ⟨⟨n, tg, ln, rf⟩, f⟩ := S
  have h : n = a + 9 := h
  subst h
  simp [k11b, kiniX8, kiniX10, kiniX3, kiniX4, kiniX5, kiniX6, uR, uN, uI, zpR, znG, znI, zup, zu1, Nat.add_assoc]
set_option maxRecDepth 20000 in
theorem k11b_f12 {k : Nat} {S : zSt} {a : Nat} (h : S.1.1 = a + 9) : (k11b S a).2 (a + 12) k = 0 := by
  obtain ⟨⟨n, tg, ln, rf⟩, f⟩ := S
  have h : n = a + 9 := h
  subst h
  simp [k11b, kiniX8, kiniX10, kiniX3, kiniX4, kiniX5, kiniX6, uR, uN, uI, zpR, znG, znI, zup, zu1, Nat.add_assoc]
set_option maxRecDepth 20000 in
theorem k11b_old {y : Nat} {S : zSt} {a : Nat} (h : S.1.1 = a + 9) (hy : y < a + 9) (ha : y ≠ a) : (k11b S a).1.2.2.2 y = S.1.2.2.2 y ∧ (k11b S a).2 y = S.2 y ∧ (k11b S a).1.2.1 y = S.1.2.1 y ∧ (k11b S a).1.2.2.1 y = S.1.2.2.1 y := by
  obtain ⟨⟨n, tg, ln, rf⟩, f⟩ := S
  have h : n = a + 9 := h
  subst h
  have e : ∀ j, 9 ≤ j → ¬ y = a + j := fun j _ => by omega
  refine ⟨?_, ?_, ?_, ?_⟩ <;> (try funext k) <;> simp [k11b, kiniX8, kiniX10, kiniX3, kiniX4, kiniX5, kiniX6, uR, uN, uI, zpR, znG, znI, zup, zu1, Nat.add_assoc, ha, e]
set_option maxRecDepth 20000 in
theorem k11b_own {S : zSt} {a : Nat} (h : S.1.1 = a + 9) : (k11b S a).1.2.2.2 a 2 = some (a + 2) ∧ (∀ k, k ≠ 2 → (k11b S a).1.2.2.2 a k = S.1.2.2.2 a k) ∧ (∀ k, k ≠ 1 → (k11b S a).2 a k = S.2 a k) ∧ ((k11b S a).2 a 1 = S.2 a 1 ∨ (k11b S a).2 a 1 = 0) ∧ (k11b S a).1.2.1 a = S.1.2.1 a ∧ (k11b S a).1.2.2.1 a = S.1.2.2.1 a := by
  obtain ⟨⟨n, tg, ln, rf⟩, f⟩ := S
  have h : n = a + 9 := h
  subst h
  refine ⟨?_, ?_, ?_, ?_, ?_, ?_⟩
  · simp [k11b, kiniX8, kiniX10, kiniX3, kiniX4, kiniX5, kiniX6, uR, uN, uI, zpR, znG, znI, zup, zu1, Nat.add_assoc]
  · intro k h2
    simp [k11b, kiniX8, kiniX10, kiniX3, kiniX4, kiniX5, kiniX6, uR, uN, uI, zpR, znG, znI, zup, zu1, Nat.add_assoc, h2]
  · intro k h1
    simp [k11b, kiniX8, kiniX10, kiniX3, kiniX4, kiniX5, kiniX6, uR, uN, uI, zpR, znG, znI, zup, zu1, Nat.add_assoc, h1]
  · simp [k11b, kiniX8, kiniX10, kiniX3, kiniX4, kiniX5, kiniX6, uR, uN, uI, zpR, znG, znI, zup, zu1, Nat.add_assoc]
  · simp [k11b, kiniX8, kiniX10, kiniX3, kiniX4, kiniX5, kiniX6, uR, uN, uI, zpR, znG, znI, zup, zu1, Nat.add_assoc]
  · simp [k11b, kiniX8, kiniX10, kiniX3, kiniX4, kiniX5, kiniX6, uR, uN, uI, zpR, znG, znI, zup, zu1, Nat.add_assoc]
set_option maxRecDepth 20000 in
theorem k11d_z {S : zSt} {a : Nat} (h : S.1.1 = a + 13) : (k11d S a).1.1 = a + 26 := by
  obtain ⟨⟨n, tg, ln, rf⟩, f⟩ := S
  have h : n = a + 13 := h
  subst h
  rfl
set_option maxRecDepth 20000 in
theorem k11d_t13 {S : zSt} {a : Nat} (h : S.1.1 = a + 13) : (k11d S a).1.2.1 (a + 13) = 8 ∧ (k11d S a).1.2.2.1 (a + 13) = 0 := by
  obtain ⟨⟨n, tg, ln, rf⟩, f⟩ := S
  have h : n = a + 13 := h
  subst h
  constructor <;> simp [k11d, kiniX8, kiniX10, kiniX3, kiniX4, kiniX5, kiniX6, uR, uN, uI, zpR, znG, znI, zup, zu1, Nat.add_assoc]
set_option maxRecDepth 20000 in
theorem k11d_r13_1 {S : zSt} {a : Nat} (h : S.1.1 = a + 13) : (k11d S a).1.2.2.2 (a + 13) 1 = some (a + 14) := by
  obtain ⟨⟨n, tg, ln, rf⟩, f⟩ := S
  have h : n = a + 13 := h
  subst h
  simp [k11d, kiniX8, kiniX10, kiniX3, kiniX4, kiniX5, kiniX6, uR, uN, uI, zpR, znG, znI, zup, zu1, Nat.add_assoc]
set_option maxRecDepth 20000 in
theorem k11d_r13_8 {S : zSt} {a : Nat} (h : S.1.1 = a + 13) : (k11d S a).1.2.2.2 (a + 13) 8 = some (a + 15) := by
  obtain ⟨⟨n, tg, ln, rf⟩, f⟩ := S
  have h : n = a + 13 := h
  subst h
  simp [k11d, kiniX8, kiniX10, kiniX3, kiniX4, kiniX5, kiniX6, uR, uN, uI, zpR, znG, znI, zup, zu1, Nat.add_assoc]
set_option maxRecDepth 20000 in
theorem k11d_r13_9 {S : zSt} {a : Nat} (h : S.1.1 = a + 13) : (k11d S a).1.2.2.2 (a + 13) 9 = some (a + 17) := by
  obtain ⟨⟨n, tg, ln, rf⟩, f⟩ := S
  have h : n = a + 13 := h
  subst h
  simp [k11d, kiniX8, kiniX10, kiniX3, kiniX4, kiniX5, kiniX6, uR, uN, uI, zpR, znG, znI, zup, zu1, Nat.add_assoc]
set_option maxRecDepth 20000 in
theorem k11d_r13_10 {S : zSt} {a : Nat} (h : S.1.1 = a + 13) : (k11d S a).1.2.2.2 (a + 13) 10 = some (a + 20) := by
  obtain ⟨⟨n, tg, ln, rf⟩, f⟩ := S
  have h : n = a + 13 := h
  subst h
  simp [k11d, kiniX8, kiniX10, kiniX3, kiniX4, kiniX5, kiniX6, uR, uN, uI, zpR, znG, znI, zup, zu1, Nat.add_assoc]
set_option maxRecDepth 20000 in
theorem k11d_r13_12 {S : zSt} {a : Nat} (h : S.1.1 = a + 13) : (k11d S a).1.2.2.2 (a + 13) 12 = some (a + 21) := by
  obtain ⟨⟨n, tg, ln, rf⟩, f⟩ := S
  have h : n = a + 13 := h
  subst h
  simp [k11d, kiniX8, kiniX10, kiniX3, kiniX4, kiniX5, kiniX6, uR, uN, uI, zpR, znG, znI, zup, zu1, Nat.add_assoc]
set_option maxRecDepth 20000 in
theorem k11d_r13_13 {S : zSt} {a : Nat} (h : S.1.1 = a + 13) : (k11d S a).1.2.2.2 (a + 13) 13 = some (a + 22) := by
  obtain ⟨⟨n, tg, ln, rf⟩, f⟩ := S
  have h : n = a + 13 := h
  subst h
  simp [k11d, kiniX8, kiniX10, kiniX3, kiniX4, kiniX5, kiniX6, uR, uN, uI, zpR, znG, znI, zup, zu1, Nat.add_assoc]
set_option maxRecDepth 20000 in
theorem k11d_n13 {k : Nat} {S : zSt} {a : Nat} (h : S.1.1 = a + 13) (h1 : k ≠ 1) (h8 : k ≠ 8) (h9 : k ≠ 9) (h10 : k ≠ 10) (h12 : k ≠ 12) (h13 : k ≠ 13) : (k11d S a).1.2.2.2 (a + 13) k = none := by
  obtain ⟨⟨n, tg, ln, rf⟩, f⟩ := S
  have h : n = a + 13 := h
  subst h
  simp [k11d, kiniX8, kiniX10, kiniX3, kiniX4, kiniX5, kiniX6, uR, uN, uI, zpR, znG, znI, zup, zu1, Nat.add_assoc, h1, h8, h9, h10, h12, h13]
set_option maxRecDepth 20000 in
theorem k11d_f13 {k : Nat} {S : zSt} {a : Nat} (h : S.1.1 = a + 13) : (k11d S a).2 (a + 13) k = 0 := by
  obtain ⟨⟨n, tg, ln, rf⟩, f⟩ := S
  have h : n = a + 13 := h
  subst h
  simp [k11d, kiniX8, kiniX10, kiniX3, kiniX4, kiniX5, kiniX6, uR, uN, uI, zpR, znG, znI, zup, zu1, Nat.add_assoc]
set_option maxRecDepth 20000 in
theorem k11d_t14 {S : zSt} {a : Nat} (h : S.1.1 = a + 13) : (k11d S a).1.2.1 (a + 14) = 16 ∧ (k11d S a).1.2.2.1 (a + 14) = 4 := by
  obtain ⟨⟨n, tg, ln, rf⟩, f⟩ := S
  have h : n = a + 13 := h
  subst h
  constructor <;> simp [k11d, kiniX8, kiniX10, kiniX3, kiniX4, kiniX5, kiniX6, uR, uN, uI, zpR, znG, znI, zup, zu1, Nat.add_assoc]
set_option maxRecDepth 20000 in
theorem k11d_n14 {k : Nat} {S : zSt} {a : Nat} (h : S.1.1 = a + 13)  : (k11d S a).1.2.2.2 (a + 14) k = none := by
  obtain ⟨⟨n, tg, ln, rf⟩, f⟩ := S
  have h : n = a + 13 := h
  subst h
  simp [k11d, kiniX8, kiniX10, kiniX3, kiniX4, kiniX5, kiniX6, uR, uN, uI, zpR, znG, znI, zup, zu1, Nat.add_assoc]
set_option maxRecDepth 20000 in
theorem k11d_f14 {k : Nat} {S : zSt} {a : Nat} (h : S.1.1 = a + 13) : (k11d S a).2 (a + 14) k = 0 := by
  obtain ⟨⟨n, tg, ln, rf⟩, f⟩ := S
  have h : n = a + 13 := h
  subst h
  simp [k11d, kiniX8, kiniX10, kiniX3, kiniX4, kiniX5, kiniX6, uR, uN, uI, zpR, znG, znI, zup, zu1, Nat.add_assoc]
set_option maxRecDepth 20000 in
theorem k11d_t15 {S : zSt} {a : Nat} (h : S.1.1 = a + 13) : (k11d S a).1.2.1 (a + 15) = 10 ∧ (k11d S a).1.2.2.1 (a + 15) = 0 := by
  obtain ⟨⟨n, tg, ln, rf⟩, f⟩ := S
  have h : n = a + 13 := h
  subst h
  constructor <;> simp [k11d, kiniX8, kiniX10, kiniX3, kiniX4, kiniX5, kiniX6, uR, uN, uI, zpR, znG, znI, zup, zu1, Nat.add_assoc]
set_option maxRecDepth 20000 in
theorem k11d_r15_0 {S : zSt} {a : Nat} (h : S.1.1 = a + 13) : (k11d S a).1.2.2.2 (a + 15) 0 = some (a + 16) := by
  obtain ⟨⟨n, tg, ln, rf⟩, f⟩ := S
  have h : n = a + 13 := h
  subst h
  simp [k11d, kiniX8, kiniX10, kiniX3, kiniX4, kiniX5, kiniX6, uR, uN, uI, zpR, znG, znI, zup, zu1, Nat.add_assoc]
set_option maxRecDepth 20000 in
theorem k11d_n15 {k : Nat} {S : zSt} {a : Nat} (h : S.1.1 = a + 13) (h0 : k ≠ 0) : (k11d S a).1.2.2.2 (a + 15) k = none := by
  obtain ⟨⟨n, tg, ln, rf⟩, f⟩ := S
  have h : n = a + 13 := h
  subst h
  simp [k11d, kiniX8, kiniX10, kiniX3, kiniX4, kiniX5, kiniX6, uR, uN, uI, zpR, znG, znI, zup, zu1, Nat.add_assoc, h0]
set_option maxRecDepth 20000 in
theorem k11d_f15 {k : Nat} {S : zSt} {a : Nat} (h : S.1.1 = a + 13) : (k11d S a).2 (a + 15) k = 0 := by
  obtain ⟨⟨n, tg, ln, rf⟩, f⟩ := S
  have h : n = a + 13 := h
  subst h
  simp [k11d, kiniX8, kiniX10, kiniX3, kiniX4, kiniX5, kiniX6, uR, uN, uI, zpR, znG, znI, zup, zu1, Nat.add_assoc]
set_option maxRecDepth 20000 in
theorem k11d_t16 {S : zSt} {a : Nat} (h : S.1.1 = a + 13) : (k11d S a).1.2.1 (a + 16) = 15 ∧ (k11d S a).1.2.2.1 (a + 16) = 100 := by
  obtain ⟨⟨n, tg, ln, rf⟩, f⟩ := S
  have h : n = a + 13 := h
  subst h
  constructor <;> simp [k11d, kiniX8, kiniX10, kiniX3, kiniX4, kiniX5, kiniX6, uR, uN, uI, zpR, znG, znI, zup, zu1, Nat.add_assoc]
set_option maxRecDepth 20000 in
theorem k11d_n16 {k : Nat} {S : zSt} {a : Nat} (h : S.1.1 = a + 13)  : (k11d S a).1.2.2.2 (a + 16) k = none := by
  obtain ⟨⟨n, tg, ln, rf⟩, f⟩ := S
  have h : n = a + 13 := h
  subst h
  simp [k11d, kiniX8, kiniX10, kiniX3, kiniX4, kiniX5, kiniX6, uR, uN, uI, zpR, znG, znI, zup, zu1, Nat.add_assoc]
set_option maxRecDepth 20000 in
theorem k11d_f16 {k : Nat} {S : zSt} {a : Nat} (h : S.1.1 = a + 13) : (k11d S a).2 (a + 16) k = 0 := by
  obtain ⟨⟨n, tg, ln, rf⟩, f⟩ := S
  have h : n = a + 13 := h
  subst h
  simp [k11d, kiniX8, kiniX10, kiniX3, kiniX4, kiniX5, kiniX6, uR, uN, uI, zpR, znG, znI, zup, zu1, Nat.add_assoc]
set_option maxRecDepth 20000 in
theorem k11d_t17 {S : zSt} {a : Nat} (h : S.1.1 = a + 13) : (k11d S a).1.2.1 (a + 17) = 3 ∧ (k11d S a).1.2.2.1 (a + 17) = 0 := by
  obtain ⟨⟨n, tg, ln, rf⟩, f⟩ := S
  have h : n = a + 13 := h
  subst h
  constructor <;> simp [k11d, kiniX8, kiniX10, kiniX3, kiniX4, kiniX5, kiniX6, uR, uN, uI, zpR, znG, znI, zup, zu1, Nat.add_assoc]
set_option maxRecDepth 20000 in
theorem k11d_r17_0 {S : zSt} {a : Nat} (h : S.1.1 = a + 13) : (k11d S a).1.2.2.2 (a + 17) 0 = some (a + 18) := by
  obtain ⟨⟨n, tg, ln, rf⟩, f⟩ := S
  have h : n = a + 13 := h
  subst h
  simp [k11d, kiniX8, kiniX10, kiniX3, kiniX4, kiniX5, kiniX6, uR, uN, uI, zpR, znG, znI, zup, zu1, Nat.add_assoc]
set_option maxRecDepth 20000 in
theorem k11d_r17_4 {S : zSt} {a : Nat} (h : S.1.1 = a + 13) : (k11d S a).1.2.2.2 (a + 17) 4 = some (a + 19) := by
  obtain ⟨⟨n, tg, ln, rf⟩, f⟩ := S
  have h : n = a + 13 := h
  subst h
  simp [k11d, kiniX8, kiniX10, kiniX3, kiniX4, kiniX5, kiniX6, uR, uN, uI, zpR, znG, znI, zup, zu1, Nat.add_assoc]
set_option maxRecDepth 20000 in
theorem k11d_n17 {k : Nat} {S : zSt} {a : Nat} (h : S.1.1 = a + 13) (h0 : k ≠ 0) (h4 : k ≠ 4) : (k11d S a).1.2.2.2 (a + 17) k = none := by
  obtain ⟨⟨n, tg, ln, rf⟩, f⟩ := S
  have h : n = a + 13 := h
  subst h
  simp [k11d, kiniX8, kiniX10, kiniX3, kiniX4, kiniX5, kiniX6, uR, uN, uI, zpR, znG, znI, zup, zu1, Nat.add_assoc, h0, h4]
set_option maxRecDepth 20000 in
theorem k11d_f17 {k : Nat} {S : zSt} {a : Nat} (h : S.1.1 = a + 13) : (k11d S a).2 (a + 17) k = 0 := by
  obtain ⟨⟨n, tg, ln, rf⟩, f⟩ := S
  have h : n = a + 13 := h
  subst h
  simp [k11d, kiniX8, kiniX10, kiniX3, kiniX4, kiniX5, kiniX6, uR, uN, uI, zpR, znG, znI, zup, zu1, Nat.add_assoc]
set_option maxRecDepth 20000 in
theorem k11d_t18 {S : zSt} {a : Nat} (h : S.1.1 = a + 13) : (k11d S a).1.2.1 (a + 18) = 13 ∧ (k11d S a).1.2.2.1 (a + 18) = 1000 := by
  obtain ⟨⟨n, tg, ln, rf⟩, f⟩ := S
  have h : n = a + 13 := h
  subst h
  constructor <;> simp [k11d, kiniX8, kiniX10, kiniX3, kiniX4, kiniX5, kiniX6, uR, uN, uI, zpR, znG, znI, zup, zu1, Nat.add_assoc]
set_option maxRecDepth 20000 in
theorem k11d_n18 {k : Nat} {S : zSt} {a : Nat} (h : S.1.1 = a + 13)  : (k11d S a).1.2.2.2 (a + 18) k = none := by
  obtain ⟨⟨n, tg, ln, rf⟩, f⟩ := S
  have h : n = a + 13 := h
  subst h
  simp [k11d, kiniX8, kiniX10, kiniX3, kiniX4, kiniX5, kiniX6, uR, uN, uI, zpR, znG, znI, zup, zu1, Nat.add_assoc]
set_option maxRecDepth 20000 in
theorem k11d_f18 {k : Nat} {S : zSt} {a : Nat} (h : S.1.1 = a + 13) : (k11d S a).2 (a + 18) k = 0 := by
  obtain ⟨⟨n, tg, ln, rf⟩, f⟩ := S
  have h : n = a + 13 := h
  subst h
  simp [k11d, kiniX8, kiniX10, kiniX3, kiniX4, kiniX5, kiniX6, uR, uN, uI, zpR, znG, znI, zup, zu1, Nat.add_assoc]
set_option maxRecDepth 20000 in
theorem k11d_t19 {S : zSt} {a : Nat} (h : S.1.1 = a + 13) : (k11d S a).1.2.1 (a + 19) = 13 ∧ (k11d S a).1.2.2.1 (a + 19) = 1000 := by
  obtain ⟨⟨n, tg, ln, rf⟩, f⟩ := S
  have h : n = a + 13 := h
  subst h
  constructor <;> simp [k11d, kiniX8, kiniX10, kiniX3, kiniX4, kiniX5, kiniX6, uR, uN, uI, zpR, znG, znI, zup, zu1, Nat.add_assoc]
set_option maxRecDepth 20000 in
theorem k11d_n19 {k : Nat} {S : zSt} {a : Nat} (h : S.1.1 = a + 13)  : (k11d S a).1.2.2.2 (a + 19) k = none := by
  obtain ⟨⟨n, tg, ln, rf⟩, f⟩ := S
  have h : n = a + 13 := h
  subst h
  simp [k11d, kiniX8, kiniX10, kiniX3, kiniX4, kiniX5, kiniX6, uR, uN, uI, zpR, znG, znI, zup, zu1, Nat.add_assoc]
set_option maxRecDepth 20000 in
theorem k11d_f19 {k : Nat} {S : zSt} {a : Nat} (h : S.1.1 = a + 13) : (k11d S a).2 (a + 19) k = 0 := by
  obtain ⟨⟨n, tg, ln, rf⟩, f⟩ := S
  have h : n = a + 13 := h
  subst h
  simp [k11d, kiniX8, kiniX10, kiniX3, kiniX4, kiniX5, kiniX6, uR, uN, uI, zpR, znG, znI, zup, zu1, Nat.add_assoc]
set_option maxRecDepth 20000 in
theorem k11d_t20 {S : zSt} {a : Nat} (h : S.1.1 = a + 13) : (k11d S a).1.2.1 (a + 20) = 13 ∧ (k11d S a).1.2.2.1 (a + 20) = 60 := by
  obtain ⟨⟨n, tg, ln, rf⟩, f⟩ := S
  have h : n = a + 13 := h
  subst h
  constructor <;> simp [k11d, kiniX8, kiniX10, kiniX3, kiniX4, kiniX5, kiniX6, uR, uN, uI, zpR, znG, znI, zup, zu1, Nat.add_assoc]
set_option maxRecDepth 20000 in
theorem k11d_n20 {k : Nat} {S : zSt} {a : Nat} (h : S.1.1 = a + 13)  : (k11d S a).1.2.2.2 (a + 20) k = none := by
  obtain ⟨⟨n, tg, ln, rf⟩, f⟩ := S
  have h : n = a + 13 := h
  subst h
  simp [k11d, kiniX8, kiniX10, kiniX3, kiniX4, kiniX5, kiniX6, uR, uN, uI, zpR, znG, znI, zup, zu1, Nat.add_assoc]
set_option maxRecDepth 20000 in
theorem k11d_f20 {k : Nat} {S : zSt} {a : Nat} (h : S.1.1 = a + 13) : (k11d S a).2 (a + 20) k = 0 := by
  obtain ⟨⟨n, tg, ln, rf⟩, f⟩ := S
  have h : n = a + 13 := h
  subst h
  simp [k11d, kiniX8, kiniX10, kiniX3, kiniX4, kiniX5, kiniX6, uR, uN, uI, zpR, znG, znI, zup, zu1, Nat.add_assoc]
set_option maxRecDepth 20000 in
theorem k11d_t21 {S : zSt} {a : Nat} (h : S.1.1 = a + 13) : (k11d S a).1.2.1 (a + 21) = 13 ∧ (k11d S a).1.2.2.1 (a + 21) = 6 := by
  obtain ⟨⟨n, tg, ln, rf⟩, f⟩ := S
  have h : n = a + 13 := h
  subst h
  constructor <;> simp [k11d, kiniX8, kiniX10, kiniX3, kiniX4, kiniX5, kiniX6, uR, uN, uI, zpR, znG, znI, zup, zu1, Nat.add_assoc]
set_option maxRecDepth 20000 in
theorem k11d_n21 {k : Nat} {S : zSt} {a : Nat} (h : S.1.1 = a + 13)  : (k11d S a).1.2.2.2 (a + 21) k = none := by
  obtain ⟨⟨n, tg, ln, rf⟩, f⟩ := S
  have h : n = a + 13 := h
  subst h
  simp [k11d, kiniX8, kiniX10, kiniX3, kiniX4, kiniX5, kiniX6, uR, uN, uI, zpR, znG, znI, zup, zu1, Nat.add_assoc]
set_option maxRecDepth 20000 in
theorem k11d_f21 {k : Nat} {S : zSt} {a : Nat} (h : S.1.1 = a + 13) : (k11d S a).2 (a + 21) k = 0 := by
  obtain ⟨⟨n, tg, ln, rf⟩, f⟩ := S
  have h : n = a + 13 := h
  subst h
  simp [k11d, kiniX8, kiniX10, kiniX3, kiniX4, kiniX5, kiniX6, uR, uN, uI, zpR, znG, znI, zup, zu1, Nat.add_assoc]
set_option maxRecDepth 20000 in
theorem k11d_t22 {S : zSt} {a : Nat} (h : S.1.1 = a + 13) : (k11d S a).1.2.1 (a + 22) = 5 ∧ (k11d S a).1.2.2.1 (a + 22) = 0 := by
  obtain ⟨⟨n, tg, ln, rf⟩, f⟩ := S
  have h : n = a + 13 := h
  subst h
  constructor <;> simp [k11d, kiniX8, kiniX10, kiniX3, kiniX4, kiniX5, kiniX6, uR, uN, uI, zpR, znG, znI, zup, zu1, Nat.add_assoc]
set_option maxRecDepth 20000 in
theorem k11d_r22_0 {S : zSt} {a : Nat} (h : S.1.1 = a + 13) : (k11d S a).1.2.2.2 (a + 22) 0 = some (a + 23) := by
  obtain ⟨⟨n, tg, ln, rf⟩, f⟩ := S
  have h : n = a + 13 := h
  subst h
  simp [k11d, kiniX8, kiniX10, kiniX3, kiniX4, kiniX5, kiniX6, uR, uN, uI, zpR, znG, znI, zup, zu1, Nat.add_assoc]
set_option maxRecDepth 20000 in
theorem k11d_r22_1 {S : zSt} {a : Nat} (h : S.1.1 = a + 13) : (k11d S a).1.2.2.2 (a + 22) 1 = some (a + 24) := by
  obtain ⟨⟨n, tg, ln, rf⟩, f⟩ := S
  have h : n = a + 13 := h
  subst h
  simp [k11d, kiniX8, kiniX10, kiniX3, kiniX4, kiniX5, kiniX6, uR, uN, uI, zpR, znG, znI, zup, zu1, Nat.add_assoc]
set_option maxRecDepth 20000 in
theorem k11d_r22_3 {S : zSt} {a : Nat} (h : S.1.1 = a + 13) : (k11d S a).1.2.2.2 (a + 22) 3 = some (a + 25) := by
  obtain ⟨⟨n, tg, ln, rf⟩, f⟩ := S
  have h : n = a + 13 := h
  subst h
  simp [k11d, kiniX8, kiniX10, kiniX3, kiniX4, kiniX5, kiniX6, uR, uN, uI, zpR, znG, znI, zup, zu1, Nat.add_assoc]
set_option maxRecDepth 20000 in
theorem k11d_n22 {k : Nat} {S : zSt} {a : Nat} (h : S.1.1 = a + 13) (h0 : k ≠ 0) (h1 : k ≠ 1) (h3 : k ≠ 3) : (k11d S a).1.2.2.2 (a + 22) k = none := by
  obtain ⟨⟨n, tg, ln, rf⟩, f⟩ := S
  have h : n = a + 13 := h
  subst h
  simp [k11d, kiniX8, kiniX10, kiniX3, kiniX4, kiniX5, kiniX6, uR, uN, uI, zpR, znG, znI, zup, zu1, Nat.add_assoc, h0, h1, h3]
set_option maxRecDepth 20000 in
theorem k11d_f22 {k : Nat} {S : zSt} {a : Nat} (h : S.1.1 = a + 13) : (k11d S a).2 (a + 22) k = 0 := by
  obtain ⟨⟨n, tg, ln, rf⟩, f⟩ := S
  have h : n = a + 13 := h
  subst h
  simp [k11d, kiniX8, kiniX10, kiniX3, kiniX4, kiniX5, kiniX6, uR, uN, uI, zpR, znG, znI, zup, zu1, Nat.add_assoc]
set_option maxRecDepth 20000 in
theorem k11d_t23 {S : zSt} {a : Nat} (h : S.1.1 = a + 13) : (k11d S a).1.2.1 (a + 23) = 18 ∧ (k11d S a).1.2.2.1 (a + 23) = 1000 := by
  obtain ⟨⟨n, tg, ln, rf⟩, f⟩ := S
  have h : n = a + 13 := h
  subst h
  constructor <;> simp [k11d, kiniX8, kiniX10, kiniX3, kiniX4, kiniX5, kiniX6, uR, uN, uI, zpR, znG, znI, zup, zu1, Nat.add_assoc]
set_option maxRecDepth 20000 in
theorem k11d_n23 {k : Nat} {S : zSt} {a : Nat} (h : S.1.1 = a + 13)  : (k11d S a).1.2.2.2 (a + 23) k = none := by
  obtain ⟨⟨n, tg, ln, rf⟩, f⟩ := S
  have h : n = a + 13 := h
  subst h
  simp [k11d, kiniX8, kiniX10, kiniX3, kiniX4, kiniX5, kiniX6, uR, uN, uI, zpR, znG, znI, zup, zu1, Nat.add_assoc]
set_option maxRecDepth 20000 in
theorem k11d_f23 {k : Nat} {S : zSt} {a : Nat} (h : S.1.1 = a + 13) : (k11d S a).2 (a + 23) k = 0 := by
  obtain ⟨⟨n, tg, ln, rf⟩, f⟩ := S
  have h : n = a + 13 := h
  subst h
  simp [k11d, kiniX8, kiniX10, kiniX3, kiniX4, kiniX5, kiniX6, uR, uN, uI, zpR, znG, znI, zup, zu1, Nat.add_assoc]
set_option maxRecDepth 20000 in
theorem k11d_t24 {S : zSt} {a : Nat} (h : S.1.1 = a + 13) : (k11d S a).1.2.1 (a + 24) = 13 ∧ (k11d S a).1.2.2.1 (a + 24) = 1000 := by
  obtain ⟨⟨n, tg, ln, rf⟩, f⟩ := S
  have h : n = a + 13 := h
  subst h
  constructor <;> simp [k11d, kiniX8, kiniX10, kiniX3, kiniX4, kiniX5, kiniX6, uR, uN, uI, zpR, znG, znI, zup, zu1, Nat.add_assoc]
set_option maxRecDepth 20000 in
theorem k11d_n24 {k : Nat} {S : zSt} {a : Nat} (h : S.1.1 = a + 13)  : (k11d S a).1.2.2.2 (a + 24) k = none := by
  obtain ⟨⟨n, tg, ln, rf⟩, f⟩ := S
  have h : n = a + 13 := h
  subst h
  simp [k11d, kiniX8, kiniX10, kiniX3, kiniX4, kiniX5, kiniX6, uR, uN, uI, zpR, znG, znI, zup, zu1, Nat.add_assoc]
set_option maxRecDepth 20000 in
theorem k11d_f24 {k : Nat} {S : zSt} {a : Nat} (h : S.1.1 = a + 13) : (k11d S a).2 (a + 24) k = 0 := by
  obtain ⟨⟨n, tg, ln, rf⟩, f⟩ := S
  have h : n = a + 13 := h
  subst h
  simp [k11d, kiniX8, kiniX10, kiniX3, kiniX4, kiniX5, kiniX6, uR, uN, uI, zpR, znG, znI, zup, zu1, Nat.add_assoc]
set_option maxRecDepth 20000 in
theorem k11d_t25 {S : zSt} {a : Nat} (h : S.1.1 = a + 13) : (k11d S a).1.2.1 (a + 25) = 13 ∧ (k11d S a).1.2.2.1 (a + 25) = 1000 := by
  obtain ⟨⟨n, tg, ln, rf⟩, f⟩ := S
  have h : n = a + 13 := h
  subst h
  constructor <;> simp [k11d, kiniX8, kiniX10, kiniX3, kiniX4, kiniX5, kiniX6, uR, uN, uI, zpR, znG, znI, zup, zu1, Nat.add_assoc]
set_option maxRecDepth 20000 in
theorem k11d_n25 {k : Nat} {S : zSt} {a : Nat} (h : S.1.1 = a + 13)  : (k11d S a).1.2.2.2 (a + 25) k = none := by
  obtain ⟨⟨n, tg, ln, rf⟩, f⟩ := S
  have h : n = a + 13 := h
  subst h
  simp [k11d, kiniX8, kiniX10, kiniX3, kiniX4, kiniX5, kiniX6, uR, uN, uI, zpR, znG, znI, zup, zu1, Nat.add_assoc]
set_option maxRecDepth 20000 in
theorem k11d_f25 {k : Nat} {S : zSt} {a : Nat} (h : S.1.1 = a + 13) : (k11d S a).2 (a + 25) k = 0 := by
  obtain ⟨⟨n, tg, ln, rf⟩, f⟩ := S
  have h : n = a + 13 := h
  subst h
  simp [k11d, kiniX8, kiniX10, kiniX3, kiniX4, kiniX5, kiniX6, uR, uN, uI, zpR, znG, znI, zup, zu1, Nat.add_assoc]
set_option maxRecDepth 20000 in
theorem k11d_old {y : Nat} {S : zSt} {a : Nat} (h : S.1.1 = a + 13) (hy : y < a + 13) (ha : y ≠ a) : (k11d S a).1.2.2.2 y = S.1.2.2.2 y ∧ (k11d S a).2 y = S.2 y ∧ (k11d S a).1.2.1 y = S.1.2.1 y ∧ (k11d S a).1.2.2.1 y = S.1.2.2.1 y := by
  obtain ⟨⟨n, tg, ln, rf⟩, f⟩ := S
  have h : n = a + 13 := h
  subst h
  have e : ∀ j, 13 ≤ j → ¬ y = a + j := fun j _ => by omega
  refine ⟨?_, ?_, ?_, ?_⟩ <;> (try funext k) <;> simp [k11d, kiniX8, kiniX10, kiniX3, kiniX4, kiniX5, kiniX6, uR, uN, uI, zpR, znG, znI, zup, zu1, Nat.add_assoc, ha, e]
set_option maxRecDepth 20000 in
theorem k11d_own {S : zSt} {a : Nat} (h : S.1.1 = a + 13) : (k11d S a).1.2.2.2 a 3 = some (a + 9) ∧ (∀ k, k ≠ 3 → (k11d S a).1.2.2.2 a k = S.1.2.2.2 a k) ∧ (∀ k, k ≠ 1 → (k11d S a).2 a k = S.2 a k) ∧ ((k11d S a).2 a 1 = S.2 a 1 ∨ (k11d S a).2 a 1 = 0) ∧ (k11d S a).1.2.1 a = S.1.2.1 a ∧ (k11d S a).1.2.2.1 a = S.1.2.2.1 a := by
  obtain ⟨⟨n, tg, ln, rf⟩, f⟩ := S
  have h : n = a + 13 := h
  subst h
  refine ⟨?_, ?_, ?_, ?_, ?_, ?_⟩
  · simp [k11d, kiniX8, kiniX10, kiniX3, kiniX4, kiniX5, kiniX6, uR, uN, uI, zpR, znG, znI, zup, zu1, Nat.add_assoc]
  · intro k h3
    simp [k11d, kiniX8, kiniX10, kiniX3, kiniX4, kiniX5, kiniX6, uR, uN, uI, zpR, znG, znI, zup, zu1, Nat.add_assoc, h3]
  · intro k h1
    simp [k11d, kiniX8, kiniX10, kiniX3, kiniX4, kiniX5, kiniX6, uR, uN, uI, zpR, znG, znI, zup, zu1, Nat.add_assoc, h1]
  · simp [k11d, kiniX8, kiniX10, kiniX3, kiniX4, kiniX5, kiniX6, uR, uN, uI, zpR, znG, znI, zup, zu1, Nat.add_assoc]
  · simp [k11d, kiniX8, kiniX10, kiniX3, kiniX4, kiniX5, kiniX6, uR, uN, uI, zpR, znG, znI, zup, zu1, Nat.add_assoc]
  · simp [k11d, kiniX8, kiniX10, kiniX3, kiniX4, kiniX5, kiniX6, uR, uN, uI, zpR, znG, znI, zup, zu1, Nat.add_assoc]
set_option maxRecDepth 20000 in
theorem k11e_z {S : zSt} {a : Nat} (h : S.1.1 = a + 26) : (k11e S a).1.1 = a + 27 := by
  obtain ⟨⟨n, tg, ln, rf⟩, f⟩ := S
  have h : n = a + 26 := h
  subst h
  rfl
set_option maxRecDepth 20000 in
theorem k11e_t26 {S : zSt} {a : Nat} (h : S.1.1 = a + 26) : (k11e S a).1.2.1 (a + 26) = 17 ∧ (k11e S a).1.2.2.1 (a + 26) = 2 := by
  obtain ⟨⟨n, tg, ln, rf⟩, f⟩ := S
  have h : n = a + 26 := h
  subst h
  constructor <;> simp [k11e, kiniX8, kiniX10, kiniX3, kiniX4, kiniX5, kiniX6, uR, uN, uI, zpR, znG, znI, zup, zu1, Nat.add_assoc]
set_option maxRecDepth 20000 in
theorem k11e_n26 {k : Nat} {S : zSt} {a : Nat} (h : S.1.1 = a + 26)  : (k11e S a).1.2.2.2 (a + 26) k = none := by
  obtain ⟨⟨n, tg, ln, rf⟩, f⟩ := S
  have h : n = a + 26 := h
  subst h
  simp [k11e, kiniX8, kiniX10, kiniX3, kiniX4, kiniX5, kiniX6, uR, uN, uI, zpR, znG, znI, zup, zu1, Nat.add_assoc]
set_option maxRecDepth 20000 in
theorem k11e_f26 {k : Nat} {S : zSt} {a : Nat} (h : S.1.1 = a + 26) : (k11e S a).2 (a + 26) k = 0 := by
  obtain ⟨⟨n, tg, ln, rf⟩, f⟩ := S
  have h : n = a + 26 := h
  subst h
  simp [k11e, kiniX8, kiniX10, kiniX3, kiniX4, kiniX5, kiniX6, uR, uN, uI, zpR, znG, znI, zup, zu1, Nat.add_assoc]
set_option maxRecDepth 20000 in
theorem k11e_old {y : Nat} {S : zSt} {a : Nat} (h : S.1.1 = a + 26) (hy : y < a + 26) (ha : y ≠ a) : (k11e S a).1.2.2.2 y = S.1.2.2.2 y ∧ (k11e S a).2 y = S.2 y ∧ (k11e S a).1.2.1 y = S.1.2.1 y ∧ (k11e S a).1.2.2.1 y = S.1.2.2.1 y := by
  obtain ⟨⟨n, tg, ln, rf⟩, f⟩ := S
  have h : n = a + 26 := h
  subst h
  have e : ∀ j, 26 ≤ j → ¬ y = a + j := fun j _ => by omega
  refine ⟨?_, ?_, ?_, ?_⟩ <;> (try funext k) <;> simp [k11e, kiniX8, kiniX10, kiniX3, kiniX4, kiniX5, kiniX6, uR, uN, uI, zpR, znG, znI, zup, zu1, Nat.add_assoc, ha, e]
set_option maxRecDepth 20000 in
theorem k11e_own {S : zSt} {a : Nat} (h : S.1.1 = a + 26) : (k11e S a).1.2.2.2 a 4 = some (a + 13) ∧ (k11e S a).1.2.2.2 a 5 = some (a + 26) ∧ (∀ k, k ≠ 4 → k ≠ 5 → (k11e S a).1.2.2.2 a k = S.1.2.2.2 a k) ∧ (∀ k, k ≠ 1 → (k11e S a).2 a k = S.2 a k) ∧ ((k11e S a).2 a 1 = S.2 a 1 ∨ (k11e S a).2 a 1 = 0) ∧ (k11e S a).1.2.1 a = S.1.2.1 a ∧ (k11e S a).1.2.2.1 a = S.1.2.2.1 a := by
  obtain ⟨⟨n, tg, ln, rf⟩, f⟩ := S
  have h : n = a + 26 := h
  subst h
  refine ⟨?_, ?_, ?_, ?_, ?_, ?_, ?_⟩
  · simp [k11e, kiniX8, kiniX10, kiniX3, kiniX4, kiniX5, kiniX6, uR, uN, uI, zpR, znG, znI, zup, zu1, Nat.add_assoc]
  · simp [k11e, kiniX8, kiniX10, kiniX3, kiniX4, kiniX5, kiniX6, uR, uN, uI, zpR, znG, znI, zup, zu1, Nat.add_assoc]
  · intro k h4 h5
    simp [k11e, kiniX8, kiniX10, kiniX3, kiniX4, kiniX5, kiniX6, uR, uN, uI, zpR, znG, znI, zup, zu1, Nat.add_assoc, h4, h5]
  · intro k h1
    simp [k11e, kiniX8, kiniX10, kiniX3, kiniX4, kiniX5, kiniX6, uR, uN, uI, zpR, znG, znI, zup, zu1, Nat.add_assoc, h1]
  · simp [k11e, kiniX8, kiniX10, kiniX3, kiniX4, kiniX5, kiniX6, uR, uN, uI, zpR, znG, znI, zup, zu1, Nat.add_assoc]
  · simp [k11e, kiniX8, kiniX10, kiniX3, kiniX4, kiniX5, kiniX6, uR, uN, uI, zpR, znG, znI, zup, zu1, Nat.add_assoc]
  · simp [k11e, kiniX8, kiniX10, kiniX3, kiniX4, kiniX5, kiniX6, uR, uN, uI, zpR, znG, znI, zup, zu1, Nat.add_assoc]
