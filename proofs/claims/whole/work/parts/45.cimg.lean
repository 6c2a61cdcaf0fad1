/-! The class's images, over the block. -/
def gvS (c : Nat) (R : zRf) (C : zI) (S : zSt) : zSt := (gv c S.1 R, cv c S.2 C)
theorem gvS_N {c : Nat} {R : zRf} {C : zI} {S : zSt} {t n : Nat} (h : c + 27 ≤ S.1.1) : uN (gvS c R C S) t n = gvS c R C (uN S t n) := by
  unfold uN gvS
  simp only
  rw [gv_new h, cv_new h]
theorem gvS_R {c : Nat} {R : zRf} {C : zI} {S : zSt} {a k : Nat} {v : Option Nat} (h : ¬ (c ≤ a ∧ a < c + 27)) : uR (gvS c R C S) a k v = gvS c R C (uR S a k v) := by
  unfold uR gvS
  simp only [gv_stD h]
theorem gvS_I {c : Nat} {R : zRf} {C : zI} {S : zSt} {a k : Nat} {v : Int32} (h : ¬ (c ≤ a ∧ a < c + 27)) : uI (gvS c R C S) a k v = gvS c R C (uI S a k v) := by
  unfold uI gvS
  simp only [cv_stD h]
theorem gvS_1 {c : Nat} {R : zRf} {C : zI} {S : zSt} : (gvS c R C S).1.1 = S.1.1 := rfl
theorem gvS_10 {c : Nat} {R : zRf} {C : zI} {S : zSt} {a : Nat} (h : c + 27 ≤ S.1.1) (ho : ¬ (c ≤ a ∧ a < c + 27)) : kiniX10 (gvS c R C S) a = gvS c R C (kiniX10 S a) := by
  unfold kiniX10
  rw [gvS_1, gvS_N h, gvS_R ho]
theorem gvS_3 {c : Nat} {R : zRf} {C : zI} {S : zSt} {a : Nat} (h : c + 27 ≤ S.1.1) (ho : ¬ (c ≤ a ∧ a < c + 27)) : kiniX3 (gvS c R C S) a = gvS c R C (kiniX3 S a) := by
  unfold kiniX3
  rw [gvS_1, gvS_N h, gvS_R ho, gvS_N (by show c + 27 ≤ S.1.1 + 1; omega), gvS_R ho]
theorem gvS_8 {c : Nat} {R : zRf} {C : zI} {S : zSt} {a x : Nat} (h : c + 27 ≤ S.1.1) (ho : ¬ (c ≤ a ∧ a < c + 27)) : kiniX8 (gvS c R C S) a x = gvS c R C (kiniX8 S a x) := by
  unfold kiniX8
  simp only [gvS_1]
  rw [gvS_N h, gvS_R ho, gvS_I ho]
  rw [gvS_N (by show c + 27 ≤ S.1.1 + 1; omega), gvS_10 (by show c + 27 ≤ S.1.1 + 2; omega) (by omega), gvS_R ho]
  rw [gvS_N (by show c + 27 ≤ S.1.1 + 3; omega), gvS_3 (by show c + 27 ≤ S.1.1 + 4; omega) (by omega), gvS_R ho]
  rw [gvS_N (by show c + 27 ≤ S.1.1 + 6; omega), gvS_R ho, gvS_N (by show c + 27 ≤ S.1.1 + 7; omega), gvS_R ho, gvS_R ho]
/-- what a new run is -/
theorem kiniX8_z (S : zSt) (a x : Nat) : zLe S.1 (kiniX8 S a x).1 := by
  unfold kiniX8 kiniX10 kiniX3 uR uN uI
  refine ((((((((zLe.new S.1 16 4).tr (zLe.new _ 10 0)).tr (zLe.new _ 15 100)).tr (zLe.new _ 3 0)).tr (zLe.new _ 13 1000)).tr (zLe.new _ 13 1000)).tr (zLe.new _ 13 60)).tr (zLe.new _ 13 6))
set_option maxRecDepth 20000 in
theorem kiniX8_RA {b0 : Nat} {S : zSt} {a x : Nat} (h1 : S.1.1 = a + 1) (hin : zIn b0 S.1 a 8) : RA b0 (kiniX8 S a x).1 a := by
  obtain ⟨⟨n, tg, ln, rf⟩, f⟩ := S
  have h1 : n = a + 1 := h1
  subst h1
  obtain ⟨i1, i2, i3⟩ := hin
  have i3 : tg a = 8 := i3
  refine ⟨⟨⟨i1, ?_, ?_⟩, ⟨by omega, ?_, ?_⟩, ⟨by omega, ?_, ?_⟩, ⟨by omega, ?_, ?_⟩, ⟨by omega, ?_, ?_⟩, ⟨by omega, ?_, ?_⟩, ⟨by omega, ?_, ?_⟩, ⟨by omega, ?_, ?_⟩, ⟨by omega, ?_, ?_⟩⟩, ⟨?_, ?_, ?_, ?_, ?_, ?_⟩, ?_, ?_, ?_, ?_, ?_, ?_, ?_, ?_⟩ <;> simp [kiniX8, kiniX10, kiniX3, uR, uN, uI, zpR, znG, znI, zIn, zup, zu1, Nat.add_assoc]
  exact i3
set_option maxRecDepth 20000 in
theorem kiniX8_13 {S : zSt} {a x : Nat} : (kiniX8 S a x).1.2.2.2 a 13 = some x := zup_at _ _ _ _
set_option maxRecDepth 20000 in
theorem kiniX8_old {S : zSt} {a x y : Nat} (h1 : S.1.1 = a + 1) (hy : y < a) : (kiniX8 S a x).1.2.2.2 y = S.1.2.2.2 y ∧ (kiniX8 S a x).2 y = S.2 y := by
  obtain ⟨⟨n, tg, ln, rf⟩, f⟩ := S
  have h1 : n = a + 1 := h1
  subst h1
  have e : ∀ j, ¬ y = a + j := fun j => by omega
  have e0 : ¬ y = a := by omega
  constructor <;> (funext k; simp [kiniX8, kiniX10, kiniX3, uR, uN, uI, zpR, znG, znI, zup, zu1, Nat.add_assoc, e, e0])
set_option maxRecDepth 20000 in
theorem kiniX8_r {S : zSt} {a x k : Nat} (h1 : S.1.1 = a + 1) : (kiniX8 S a x).1.2.2.2 (a + 1) k = none ∧ (kiniX8 S a x).1.2.2.2 (a + 3) k = none ∧ (k = 0 ∨ k = 4 ∨ k = 5 → (kiniX8 S a x).1.2.2.2 a k = S.1.2.2.2 a k) := by
  obtain ⟨⟨n, tg, ln, rf⟩, f⟩ := S
  have h1 : n = a + 1 := h1
  subst h1
  refine ⟨?_, ?_, fun h => ?_⟩
  · simp [kiniX8, kiniX10, kiniX3, uR, uN, uI, zpR, znG, znI, zIn, zup, zu1, Nat.add_assoc]
  · simp [kiniX8, kiniX10, kiniX3, uR, uN, uI, zpR, znG, znI, zIn, zup, zu1, Nat.add_assoc]
  · rcases h with rfl | rfl | rfl <;> simp [kiniX8, kiniX10, kiniX3, uR, uN, uI, zpR, znG, znI, zIn, zup, zu1, Nat.add_assoc]
set_option maxRecDepth 20000 in
theorem kiniX8_f {S : zSt} {a x k : Nat} (h1 : S.1.1 = a + 1) : ((kiniX8 S a x).2 a k = if k = 2 then 0 else S.2 a k) ∧ ∀ j, 1 ≤ j → j < 9 → (kiniX8 S a x).2 (a + j) k = 0 := by
  obtain ⟨⟨n, tg, ln, rf⟩, f⟩ := S
  have h1 : n = a + 1 := h1
  subst h1
  refine ⟨?_, fun j j1 j2 => ?_⟩
  · simp [kiniX8, kiniX10, kiniX3, uR, uN, uI, zpR, znG, znI, zIn, zup, zu1, Nat.add_assoc]
  · have hj : j = 1 ∨ j = 2 ∨ j = 3 ∨ j = 4 ∨ j = 5 ∨ j = 6 ∨ j = 7 ∨ j = 8 := by omega
    rcases hj with rfl | rfl | rfl | rfl | rfl | rfl | rfl | rfl <;> simp [kiniX8, kiniX10, kiniX3, uR, uN, uI, zpR, znG, znI, zIn, zup, zu1, Nat.add_assoc]
