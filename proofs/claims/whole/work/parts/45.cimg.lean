/-! The class's images, over the block. -/
def gvS (c : Nat) (R : zRf) (C : zI) (S : zSt) : zSt := (gv c S.1 R, cv c S.2 C)
theorem gvS_N {c : Nat} {R : zRf} {C : zI} {S : zSt} {t n : Nat} (h : c + 27 ≤ S.1.1) : uN (gvS c R C S) t n = gvS c R C (uN S t n) := by
  unfold uN gvS
  simp only
  rw [gv_new h, cv_new h]
theorem gvS_R {c : Nat} {R : zRf} {C : zI} {S : zSt} {a k : Nat} {v : Option Nat} (h : ¬ (c ≤ a ∧ a < c + 27)) : uR (gvS c R C S) a k v = gvS c R C (uR S a k v) := by
  unfold uR gvS
  simp only [gv_stD h]
theorem gvS_I {c : Nat} {R : zRf} {C : zI} {S : zSt} {a k : Nat} {v : Int32} (h : ¬ (c ≤ a ∧ a < c + 27)) : uI (gvS c R C S) a k v = gvS c R C (uI S a k v) := by
  unfold uI gvS
  simp only [cv_stD h]
theorem gvS_1 {c : Nat} {R : zRf} {C : zI} {S : zSt} : (gvS c R C S).1.1 = S.1.1 := rfl
theorem gvS_10 {c : Nat} {R : zRf} {C : zI} {S : zSt} {a : Nat} (h : c + 27 ≤ S.1.1) (ho : ¬ (c ≤ a ∧ a < c + 27)) : kiniX10 (gvS c R C S) a = gvS c R C (kiniX10 S a) := by
  unfold kiniX10
  rw [gvS_1, gvS_N h, gvS_R ho]
theorem gvS_3 {c : Nat} {R : zRf} {C : zI} {S : zSt} {a : Nat} (h : c + 27 ≤ S.1.1) (ho : ¬ (c ≤ a ∧ a < c + 27)) : kiniX3 (gvS c R C S) a = gvS c R C (kiniX3 S a) := by
  unfold kiniX3
  rw [gvS_1, gvS_N h, gvS_R ho, gvS_N (by show c + 27 ≤ S.1.1 + 1; omega), gvS_R ho]
theorem gvS_8 {c : Nat} {R : zRf} {C : zI} {S : zSt} {a x : Nat} (h : c + 27 ≤ S.1.1) (ho : ¬ (c ≤ a ∧ a < c + 27)) : kiniX8 (gvS c R C S) a x = gvS c R C (kiniX8 S a x) := by
  unfold kiniX8
  simp only [gvS_1]
  rw [gvS_N h, gvS_R ho, gvS_I ho]
  rw [gvS_N (by show c + 27 ≤ S.1.1 + 1; omega), gvS_10 (by show c + 27 ≤ S.1.1 + 2; omega) (by omega), gvS_R ho]
  rw [gvS_N (by show c + 27 ≤ S.1.1 + 3; omega), gvS_3 (by show c + 27 ≤ S.1.1 + 4; omega) (by omega), gvS_R ho]
  rw [gvS_N (by show c + 27 ≤ S.1.1 + 6; omega), gvS_R ho, gvS_N (by show c + 27 ≤ S.1.1 + 7; omega), gvS_R ho, gvS_R ho]
/-- what a new run is -/
theorem kiniX8_z (S : zSt) (a x : Nat) : zLe S.1 (kiniX8 S a x).1 := by
  unfold kiniX8 kiniX10 kiniX3 uR uN uI
  refine ((((((((zLe.new S.1 16 4).tr (zLe.new _ 10 0)).tr (zLe.new _ 15 100)).tr (zLe.new _ 3 0)).tr (zLe.new _ 13 1000)).tr (zLe.new _ 13 1000)).tr (zLe.new _ 13 60)).tr (zLe.new _ 13 6))
