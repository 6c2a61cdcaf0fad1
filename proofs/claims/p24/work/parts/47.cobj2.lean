/-! The object of the class, whole. -/
def kobj (S : zSt) (a : Nat) : zSt := k11e (k11d (k11b (k11a S a) a) a) a
section ZOB
variable {S : zSt} {a : Nat} (h : S.1.1 = a + 1)
theorem ob_z1 {S : zSt} {a : Nat} (h : S.1.1 = a + 1) : (k11a S a).1.1 = a + 9 := k11a_z h
theorem ob_z2 {S : zSt} {a : Nat} (h : S.1.1 = a + 1) : (k11b (k11a S a) a).1.1 = a + 13 := k11b_z (ob_z1 h)
theorem ob_z4 {S : zSt} {a : Nat} (h : S.1.1 = a + 1) : (k11d (k11b (k11a S a) a) a).1.1 = a + 26 := k11d_z (ob_z2 h)
theorem ob_z5 {S : zSt} {a : Nat} (h : S.1.1 = a + 1) : (kobj S a).1.1 = a + 27 := k11e_z (ob_z4 h)
end ZOB
theorem ob_t1 {S : zSt} {a : Nat} (h : S.1.1 = a + 1) : (kobj S a).1.2.1 (a + 1) = 13 ∧ (kobj S a).1.2.2.1 (a + 1) = 120 := ⟨(Eq.trans (k11e_old (ob_z4 h) (by omega) (by omega)).2.2.1 (Eq.trans (k11d_old (ob_z2 h) (by omega) (by omega)).2.2.1 (Eq.trans (k11b_old (ob_z1 h) (by omega) (by omega)).2.2.1 (k11a_t1 h).1))), (Eq.trans (k11e_old (ob_z4 h) (by omega) (by omega)).2.2.2 (Eq.trans (k11d_old (ob_z2 h) (by omega) (by omega)).2.2.2 (Eq.trans (k11b_old (ob_z1 h) (by omega) (by omega)).2.2.2 (k11a_t1 h).2)))⟩
theorem ob_n1 {k : Nat} {S : zSt} {a : Nat} (h : S.1.1 = a + 1)  : (kobj S a).1.2.2.2 (a + 1) k = none := (Eq.trans (congrFun (k11e_old (ob_z4 h) (by omega) (by omega)).1 k) (Eq.trans (congrFun (k11d_old (ob_z2 h) (by omega) (by omega)).1 k) (Eq.trans (congrFun (k11b_old (ob_z1 h) (by omega) (by omega)).1 k) (k11a_n1 h))))
theorem ob_f1 {k : Nat} {S : zSt} {a : Nat} (h : S.1.1 = a + 1) : (kobj S a).2 (a + 1) k = 0 := (Eq.trans (congrFun (k11e_old (ob_z4 h) (by omega) (by omega)).2.1 k) (Eq.trans (congrFun (k11d_old (ob_z2 h) (by omega) (by omega)).2.1 k) (Eq.trans (congrFun (k11b_old (ob_z1 h) (by omega) (by omega)).2.1 k) (k11a_f1 h))))
theorem ob_t2 {S : zSt} {a : Nat} (h : S.1.1 = a + 1) : (kobj S a).1.2.1 (a + 2) = 6 ∧ (kobj S a).1.2.2.1 (a + 2) = 0 := ⟨(Eq.trans (k11e_old (ob_z4 h) (by omega) (by omega)).2.2.1 (Eq.trans (k11d_old (ob_z2 h) (by omega) (by omega)).2.2.1 (Eq.trans (k11b_old (ob_z1 h) (by omega) (by omega)).2.2.1 (k11a_t2 h).1))), (Eq.trans (k11e_old (ob_z4 h) (by omega) (by omega)).2.2.2 (Eq.trans (k11d_old (ob_z2 h) (by omega) (by omega)).2.2.2 (Eq.trans (k11b_old (ob_z1 h) (by omega) (by omega)).2.2.2 (k11a_t2 h).2)))⟩
theorem ob_r2_0 {S : zSt} {a : Nat} (h : S.1.1 = a + 1) : (kobj S a).1.2.2.2 (a + 2) 0 = some (a + 3) := (Eq.trans (congrFun (k11e_old (ob_z4 h) (by omega) (by omega)).1 0) (Eq.trans (congrFun (k11d_old (ob_z2 h) (by omega) (by omega)).1 0) (Eq.trans (congrFun (k11b_old (ob_z1 h) (by omega) (by omega)).1 0) (k11a_r2_0 h))))
theorem ob_r2_4 {S : zSt} {a : Nat} (h : S.1.1 = a + 1) : (kobj S a).1.2.2.2 (a + 2) 4 = some (a + 4) := (Eq.trans (congrFun (k11e_old (ob_z4 h) (by omega) (by omega)).1 4) (Eq.trans (congrFun (k11d_old (ob_z2 h) (by omega) (by omega)).1 4) (Eq.trans (congrFun (k11b_old (ob_z1 h) (by omega) (by omega)).1 4) (k11a_r2_4 h))))
theorem ob_r2_5 {S : zSt} {a : Nat} (h : S.1.1 = a + 1) : (kobj S a).1.2.2.2 (a + 2) 5 = some (a + 5) := (Eq.trans (congrFun (k11e_old (ob_z4 h) (by omega) (by omega)).1 5) (Eq.trans (congrFun (k11d_old (ob_z2 h) (by omega) (by omega)).1 5) (Eq.trans (congrFun (k11b_old (ob_z1 h) (by omega) (by omega)).1 5) (k11a_r2_5 h))))
theorem ob_r2_6 {S : zSt} {a : Nat} (h : S.1.1 = a + 1) : (kobj S a).1.2.2.2 (a + 2) 6 = some (a + 6) := (Eq.trans (congrFun (k11e_old (ob_z4 h) (by omega) (by omega)).1 6) (Eq.trans (congrFun (k11d_old (ob_z2 h) (by omega) (by omega)).1 6) (Eq.trans (congrFun (k11b_old (ob_z1 h) (by omega) (by omega)).1 6) (k11a_r2_6 h))))
theorem ob_r2_7 {S : zSt} {a : Nat} (h : S.1.1 = a + 1) : (kobj S a).1.2.2.2 (a + 2) 7 = some (a + 7) := (Eq.trans (congrFun (k11e_old (ob_z4 h) (by omega) (by omega)).1 7) (Eq.trans (congrFun (k11d_old (ob_z2 h) (by omega) (by omega)).1 7) (Eq.trans (congrFun (k11b_old (ob_z1 h) (by omega) (by omega)).1 7) (k11a_r2_7 h))))
theorem ob_r2_8 {S : zSt} {a : Nat} (h : S.1.1 = a + 1) : (kobj S a).1.2.2.2 (a + 2) 8 = some (a + 8) := (Eq.trans (congrFun (k11e_old (ob_z4 h) (by omega) (by omega)).1 8) (Eq.trans (congrFun (k11d_old (ob_z2 h) (by omega) (by omega)).1 8) (Eq.trans (congrFun (k11b_old (ob_z1 h) (by omega) (by omega)).1 8) (k11a_r2_8 h))))
theorem ob_n2 {k : Nat} {S : zSt} {a : Nat} (h : S.1.1 = a + 1) (h0 : k ≠ 0) (h4 : k ≠ 4) (h5 : k ≠ 5) (h6 : k ≠ 6) (h7 : k ≠ 7) (h8 : k ≠ 8) : (kobj S a).1.2.2.2 (a + 2) k = none := (Eq.trans (congrFun (k11e_old (ob_z4 h) (by omega) (by omega)).1 k) (Eq.trans (congrFun (k11d_old (ob_z2 h) (by omega) (by omega)).1 k) (Eq.trans (congrFun (k11b_old (ob_z1 h) (by omega) (by omega)).1 k) (k11a_n2 h h0 h4 h5 h6 h7 h8))))
theorem ob_f2 {k : Nat} {S : zSt} {a : Nat} (h : S.1.1 = a + 1) : (kobj S a).2 (a + 2) k = 0 := (Eq.trans (congrFun (k11e_old (ob_z4 h) (by omega) (by omega)).2.1 k) (Eq.trans (congrFun (k11d_old (ob_z2 h) (by omega) (by omega)).2.1 k) (Eq.trans (congrFun (k11b_old (ob_z1 h) (by omega) (by omega)).2.1 k) (k11a_f2 h))))
theorem ob_t3 {S : zSt} {a : Nat} (h : S.1.1 = a + 1) : (kobj S a).1.2.1 (a + 3) = 14 ∧ (kobj S a).1.2.2.1 (a + 3) = 120 := ⟨(Eq.trans (k11e_old (ob_z4 h) (by omega) (by omega)).2.2.1 (Eq.trans (k11d_old (ob_z2 h) (by omega) (by omega)).2.2.1 (Eq.trans (k11b_old (ob_z1 h) (by omega) (by omega)).2.2.1 (k11a_t3 h).1))), (Eq.trans (k11e_old (ob_z4 h) (by omega) (by omega)).2.2.2 (Eq.trans (k11d_old (ob_z2 h) (by omega) (by omega)).2.2.2 (Eq.trans (k11b_old (ob_z1 h) (by omega) (by omega)).2.2.2 (k11a_t3 h).2)))⟩
theorem ob_n3 {k : Nat} {S : zSt} {a : Nat} (h : S.1.1 = a + 1)  : (kobj S a).1.2.2.2 (a + 3) k = none := (Eq.trans (congrFun (k11e_old (ob_z4 h) (by omega) (by omega)).1 k) (Eq.trans (congrFun (k11d_old (ob_z2 h) (by omega) (by omega)).1 k) (Eq.trans (congrFun (k11b_old (ob_z1 h) (by omega) (by omega)).1 k) (k11a_n3 h))))
theorem ob_f3 {k : Nat} {S : zSt} {a : Nat} (h : S.1.1 = a + 1) : (kobj S a).2 (a + 3) k = 0 := (Eq.trans (congrFun (k11e_old (ob_z4 h) (by omega) (by omega)).2.1 k) (Eq.trans (congrFun (k11d_old (ob_z2 h) (by omega) (by omega)).2.1 k) (Eq.trans (congrFun (k11b_old (ob_z1 h) (by omega) (by omega)).2.1 k) (k11a_f3 h))))
theorem ob_t4 {S : zSt} {a : Nat} (h : S.1.1 = a + 1) : (kobj S a).1.2.1 (a + 4) = 14 ∧ (kobj S a).1.2.2.1 (a + 4) = 121 := ⟨(Eq.trans (k11e_old (ob_z4 h) (by omega) (by omega)).2.2.1 (Eq.trans (k11d_old (ob_z2 h) (by omega) (by omega)).2.2.1 (Eq.trans (k11b_old (ob_z1 h) (by omega) (by omega)).2.2.1 (k11a_t4 h).1))), (Eq.trans (k11e_old (ob_z4 h) (by omega) (by omega)).2.2.2 (Eq.trans (k11d_old (ob_z2 h) (by omega) (by omega)).2.2.2 (Eq.trans (k11b_old (ob_z1 h) (by omega) (by omega)).2.2.2 (k11a_t4 h).2)))⟩
theorem ob_n4 {k : Nat} {S : zSt} {a : Nat} (h : S.1.1 = a + 1)  : (kobj S a).1.2.2.2 (a + 4) k = none := (Eq.trans (congrFun (k11e_old (ob_z4 h) (by omega) (by omega)).1 k) (Eq.trans (congrFun (k11d_old (ob_z2 h) (by omega) (by omega)).1 k) (Eq.trans (congrFun (k11b_old (ob_z1 h) (by omega) (by omega)).1 k) (k11a_n4 h))))
theorem ob_f4 {k : Nat} {S : zSt} {a : Nat} (h : S.1.1 = a + 1) : (kobj S a).2 (a + 4) k = 0 := (Eq.trans (congrFun (k11e_old (ob_z4 h) (by omega) (by omega)).2.1 k) (Eq.trans (congrFun (k11d_old (ob_z2 h) (by omega) (by omega)).2.1 k) (Eq.trans (congrFun (k11b_old (ob_z1 h) (by omega) (by omega)).2.1 k) (k11a_f4 h))))
theorem ob_t5 {S : zSt} {a : Nat} (h : S.1.1 = a + 1) : (kobj S a).1.2.1 (a + 5) = 13 ∧ (kobj S a).1.2.2.1 (a + 5) = 121 := ⟨(Eq.trans (k11e_old (ob_z4 h) (by omega) (by omega)).2.2.1 (Eq.trans (k11d_old (ob_z2 h) (by omega) (by omega)).2.2.1 (Eq.trans (k11b_old (ob_z1 h) (by omega) (by omega)).2.2.1 (k11a_t5 h).1))), (Eq.trans (k11e_old (ob_z4 h) (by omega) (by omega)).2.2.2 (Eq.trans (k11d_old (ob_z2 h) (by omega) (by omega)).2.2.2 (Eq.trans (k11b_old (ob_z1 h) (by omega) (by omega)).2.2.2 (k11a_t5 h).2)))⟩
theorem ob_n5 {k : Nat} {S : zSt} {a : Nat} (h : S.1.1 = a + 1)  : (kobj S a).1.2.2.2 (a + 5) k = none := (Eq.trans (congrFun (k11e_old (ob_z4 h) (by omega) (by omega)).1 k) (Eq.trans (congrFun (k11d_old (ob_z2 h) (by omega) (by omega)).1 k) (Eq.trans (congrFun (k11b_old (ob_z1 h) (by omega) (by omega)).1 k) (k11a_n5 h))))
theorem ob_f5 {k : Nat} {S : zSt} {a : Nat} (h : S.1.1 = a + 1) : (kobj S a).2 (a + 5) k = 0 := (Eq.trans (congrFun (k11e_old (ob_z4 h) (by omega) (by omega)).2.1 k) (Eq.trans (congrFun (k11d_old (ob_z2 h) (by omega) (by omega)).2.1 k) (Eq.trans (congrFun (k11b_old (ob_z1 h) (by omega) (by omega)).2.1 k) (k11a_f5 h))))
theorem ob_t6 {S : zSt} {a : Nat} (h : S.1.1 = a + 1) : (kobj S a).1.2.1 (a + 6) = 13 ∧ (kobj S a).1.2.2.1 (a + 6) = 121 := ⟨(Eq.trans (k11e_old (ob_z4 h) (by omega) (by omega)).2.2.1 (Eq.trans (k11d_old (ob_z2 h) (by omega) (by omega)).2.2.1 (Eq.trans (k11b_old (ob_z1 h) (by omega) (by omega)).2.2.1 (k11a_t6 h).1))), (Eq.trans (k11e_old (ob_z4 h) (by omega) (by omega)).2.2.2 (Eq.trans (k11d_old (ob_z2 h) (by omega) (by omega)).2.2.2 (Eq.trans (k11b_old (ob_z1 h) (by omega) (by omega)).2.2.2 (k11a_t6 h).2)))⟩
theorem ob_n6 {k : Nat} {S : zSt} {a : Nat} (h : S.1.1 = a + 1)  : (kobj S a).1.2.2.2 (a + 6) k = none := (Eq.trans (congrFun (k11e_old (ob_z4 h) (by omega) (by omega)).1 k) (Eq.trans (congrFun (k11d_old (ob_z2 h) (by omega) (by omega)).1 k) (Eq.trans (congrFun (k11b_old (ob_z1 h) (by omega) (by omega)).1 k) (k11a_n6 h))))
theorem ob_f6 {k : Nat} {S : zSt} {a : Nat} (h : S.1.1 = a + 1) : (kobj S a).2 (a + 6) k = 0 := (Eq.trans (congrFun (k11e_old (ob_z4 h) (by omega) (by omega)).2.1 k) (Eq.trans (congrFun (k11d_old (ob_z2 h) (by omega) (by omega)).2.1 k) (Eq.trans (congrFun (k11b_old (ob_z1 h) (by omega) (by omega)).2.1 k) (k11a_f6 h))))
theorem ob_t7 {S : zSt} {a : Nat} (h : S.1.1 = a + 1) : (kobj S a).1.2.1 (a + 7) = 13 ∧ (kobj S a).1.2.2.1 (a + 7) = 121 := ⟨(Eq.trans (k11e_old (ob_z4 h) (by omega) (by omega)).2.2.1 (Eq.trans (k11d_old (ob_z2 h) (by omega) (by omega)).2.2.1 (Eq.trans (k11b_old (ob_z1 h) (by omega) (by omega)).2.2.1 (k11a_t7 h).1))), (Eq.trans (k11e_old (ob_z4 h) (by omega) (by omega)).2.2.2 (Eq.trans (k11d_old (ob_z2 h) (by omega) (by omega)).2.2.2 (Eq.trans (k11b_old (ob_z1 h) (by omega) (by omega)).2.2.2 (k11a_t7 h).2)))⟩
theorem ob_n7 {k : Nat} {S : zSt} {a : Nat} (h : S.1.1 = a + 1)  : (kobj S a).1.2.2.2 (a + 7) k = none := (Eq.trans (congrFun (k11e_old (ob_z4 h) (by omega) (by omega)).1 k) (Eq.trans (congrFun (k11d_old (ob_z2 h) (by omega) (by omega)).1 k) (Eq.trans (congrFun (k11b_old (ob_z1 h) (by omega) (by omega)).1 k) (k11a_n7 h))))
theorem ob_f7 {k : Nat} {S : zSt} {a : Nat} (h : S.1.1 = a + 1) : (kobj S a).2 (a + 7) k = 0 := (Eq.trans (congrFun (k11e_old (ob_z4 h) (by omega) (by omega)).2.1 k) (Eq.trans (congrFun (k11d_old (ob_z2 h) (by omega) (by omega)).2.1 k) (Eq.trans (congrFun (k11b_old (ob_z1 h) (by omega) (by omega)).2.1 k) (k11a_f7 h))))
theorem ob_t8 {S : zSt} {a : Nat} (h : S.1.1 = a + 1) : (kobj S a).1.2.1 (a + 8) = 14 ∧ (kobj S a).1.2.2.1 (a + 8) = 121 := ⟨(Eq.trans (k11e_old (ob_z4 h) (by omega) (by omega)).2.2.1 (Eq.trans (k11d_old (ob_z2 h) (by omega) (by omega)).2.2.1 (Eq.trans (k11b_old (ob_z1 h) (by omega) (by omega)).2.2.1 (k11a_t8 h).1))), (Eq.trans (k11e_old (ob_z4 h) (by omega) (by omega)).2.2.2 (Eq.trans (k11d_old (ob_z2 h) (by omega) (by omega)).2.2.2 (Eq.trans (k11b_old (ob_z1 h) (by omega) (by omega)).2.2.2 (k11a_t8 h).2)))⟩
theorem ob_n8 {k : Nat} {S : zSt} {a : Nat} (h : S.1.1 = a + 1)  : (kobj S a).1.2.2.2 (a + 8) k = none := (Eq.trans (congrFun (k11e_old (ob_z4 h) (by omega) (by omega)).1 k) (Eq.trans (congrFun (k11d_old (ob_z2 h) (by omega) (by omega)).1 k) (Eq.trans (congrFun (k11b_old (ob_z1 h) (by omega) (by omega)).1 k) (k11a_n8 h))))
theorem ob_f8 {k : Nat} {S : zSt} {a : Nat} (h : S.1.1 = a + 1) : (kobj S a).2 (a + 8) k = 0 := (Eq.trans (congrFun (k11e_old (ob_z4 h) (by omega) (by omega)).2.1 k) (Eq.trans (congrFun (k11d_old (ob_z2 h) (by omega) (by omega)).2.1 k) (Eq.trans (congrFun (k11b_old (ob_z1 h) (by omega) (by omega)).2.1 k) (k11a_f8 h))))
theorem ob_t9 {S : zSt} {a : Nat} (h : S.1.1 = a + 1) : (kobj S a).1.2.1 (a + 9) = 4 ∧ (kobj S a).1.2.2.1 (a + 9) = 0 := ⟨(Eq.trans (k11e_old (ob_z4 h) (by omega) (by omega)).2.2.1 (Eq.trans (k11d_old (ob_z2 h) (by omega) (by omega)).2.2.1 (k11b_t9 (ob_z1 h)).1)), (Eq.trans (k11e_old (ob_z4 h) (by omega) (by omega)).2.2.2 (Eq.trans (k11d_old (ob_z2 h) (by omega) (by omega)).2.2.2 (k11b_t9 (ob_z1 h)).2))⟩
theorem ob_r9_0 {S : zSt} {a : Nat} (h : S.1.1 = a + 1) : (kobj S a).1.2.2.2 (a + 9) 0 = some (a + 10) := (Eq.trans (congrFun (k11e_old (ob_z4 h) (by omega) (by omega)).1 0) (Eq.trans (congrFun (k11d_old (ob_z2 h) (by omega) (by omega)).1 0) (k11b_r9_0 (ob_z1 h))))
theorem ob_r9_3 {S : zSt} {a : Nat} (h : S.1.1 = a + 1) : (kobj S a).1.2.2.2 (a + 9) 3 = some (a + 11) := (Eq.trans (congrFun (k11e_old (ob_z4 h) (by omega) (by omega)).1 3) (Eq.trans (congrFun (k11d_old (ob_z2 h) (by omega) (by omega)).1 3) (k11b_r9_3 (ob_z1 h))))
theorem ob_r9_4 {S : zSt} {a : Nat} (h : S.1.1 = a + 1) : (kobj S a).1.2.2.2 (a + 9) 4 = some (a + 12) := (Eq.trans (congrFun (k11e_old (ob_z4 h) (by omega) (by omega)).1 4) (Eq.trans (congrFun (k11d_old (ob_z2 h) (by omega) (by omega)).1 4) (k11b_r9_4 (ob_z1 h))))
theorem ob_n9 {k : Nat} {S : zSt} {a : Nat} (h : S.1.1 = a + 1) (h0 : k ≠ 0) (h3 : k ≠ 3) (h4 : k ≠ 4) : (kobj S a).1.2.2.2 (a + 9) k = none := (Eq.trans (congrFun (k11e_old (ob_z4 h) (by omega) (by omega)).1 k) (Eq.trans (congrFun (k11d_old (ob_z2 h) (by omega) (by omega)).1 k) (k11b_n9 (ob_z1 h) h0 h3 h4)))
theorem ob_f9 {k : Nat} {S : zSt} {a : Nat} (h : S.1.1 = a + 1) : (kobj S a).2 (a + 9) k = 0 := (Eq.trans (congrFun (k11e_old (ob_z4 h) (by omega) (by omega)).2.1 k) (Eq.trans (congrFun (k11d_old (ob_z2 h) (by omega) (by omega)).2.1 k) (k11b_f9 (ob_z1 h))))
theorem ob_t10 {S : zSt} {a : Nat} (h : S.1.1 = a + 1) : (kobj S a).1.2.1 (a + 10) = 13 ∧ (kobj S a).1.2.2.1 (a + 10) = 240 := ⟨(Eq.trans (k11e_old (ob_z4 h) (by omega) (by omega)).2.2.1 (Eq.trans (k11d_old (ob_z2 h) (by omega) (by omega)).2.2.1 (k11b_t10 (ob_z1 h)).1)), (Eq.trans (k11e_old (ob_z4 h) (by omega) (by omega)).2.2.2 (Eq.trans (k11d_old (ob_z2 h) (by omega) (by omega)).2.2.2 (k11b_t10 (ob_z1 h)).2))⟩
theorem ob_n10 {k : Nat} {S : zSt} {a : Nat} (h : S.1.1 = a + 1)  : (kobj S a).1.2.2.2 (a + 10) k = none := (Eq.trans (congrFun (k11e_old (ob_z4 h) (by omega) (by omega)).1 k) (Eq.trans (congrFun (k11d_old (ob_z2 h) (by omega) (by omega)).1 k) (k11b_n10 (ob_z1 h))))
theorem ob_f10 {k : Nat} {S : zSt} {a : Nat} (h : S.1.1 = a + 1) : (kobj S a).2 (a + 10) k = 0 := (Eq.trans (congrFun (k11e_old (ob_z4 h) (by omega) (by omega)).2.1 k) (Eq.trans (congrFun (k11d_old (ob_z2 h) (by omega) (by omega)).2.1 k) (k11b_f10 (ob_z1 h))))
theorem ob_t11 {S : zSt} {a : Nat} (h : S.1.1 = a + 1) : (kobj S a).1.2.1 (a + 11) = 14 ∧ (kobj S a).1.2.2.1 (a + 11) = 240 := ⟨(Eq.trans (k11e_old (ob_z4 h) (by omega) (by omega)).2.2.1 (Eq.trans (k11d_old (ob_z2 h) (by omega) (by omega)).2.2.1 (k11b_t11 (ob_z1 h)).1)), (Eq.trans (k11e_old (ob_z4 h) (by omega) (by omega)).2.2.2 (Eq.trans (k11d_old (ob_z2 h) (by omega) (by omega)).2.2.2 (k11b_t11 (ob_z1 h)).2))⟩
theorem ob_n11 {k : Nat} {S : zSt} {a : Nat} (h : S.1.1 = a + 1)  : (kobj S a).1.2.2.2 (a + 11) k = none := (Eq.trans (congrFun (k11e_old (ob_z4 h) (by omega) (by omega)).1 k) (Eq.trans (congrFun (k11d_old (ob_z2 h) (by omega) (by omega)).1 k) (k11b_n11 (ob_z1 h))))
theorem ob_f11 {k : Nat} {S : zSt} {a : Nat} (h : S.1.1 = a + 1) : (kobj S a).2 (a + 11) k = 0 := (Eq.trans (congrFun (k11e_old (ob_z4 h) (by omega) (by omega)).2.1 k) (Eq.trans (congrFun (k11d_old (ob_z2 h) (by omega) (by omega)).2.1 k) (k11b_f11 (ob_z1 h))))
theorem ob_t12 {S : zSt} {a : Nat} (h : S.1.1 = a + 1) : (kobj S a).1.2.1 (a + 12) = 13 ∧ (kobj S a).1.2.2.1 (a + 12) = 240 := ⟨(Eq.trans (k11e_old (ob_z4 h) (by omega) (by omega)).2.2.1 (Eq.trans (k11d_old (ob_z2 h) (by omega) (by omega)).2.2.1 (k11b_t12 (ob_z1 h)).1)), (Eq.trans (k11e_old (ob_z4 h) (by omega) (by omega)).2.2.2 (Eq.trans (k11d_old (ob_z2 h) (by omega) (by omega)).2.2.2 (k11b_t12 (ob_z1 h)).2))⟩
theorem ob_n12 {k : Nat} {S : zSt} {a : Nat} (h : S.1.1 = a + 1)  : (kobj S a).1.2.2.2 (a + 12) k = none := (Eq.trans (congrFun (k11e_old (ob_z4 h) (by omega) (by omega)).1 k) (Eq.trans (congrFun (k11d_old (ob_z2 h) (by omega) (by omega)).1 k) (k11b_n12 (ob_z1 h))))
theorem ob_f12 {k : Nat} {S : zSt} {a : Nat} (h : S.1.1 = a + 1) : (kobj S a).2 (a + 12) k = 0 := (Eq.trans (congrFun (k11e_old (ob_z4 h) (by omega) (by omega)).2.1 k) (Eq.trans (congrFun (k11d_old (ob_z2 h) (by omega) (by omega)).2.1 k) (k11b_f12 (ob_z1 h))))
theorem ob_t13 {S : zSt} {a : Nat} (h : S.1.1 = a + 1) : (kobj S a).1.2.1 (a + 13) = 8 ∧ (kobj S a).1.2.2.1 (a + 13) = 0 := ⟨(Eq.trans (k11e_old (ob_z4 h) (by omega) (by omega)).2.2.1 (k11d_t13 (ob_z2 h)).1), (Eq.trans (k11e_old (ob_z4 h) (by omega) (by omega)).2.2.2 (k11d_t13 (ob_z2 h)).2)⟩
theorem ob_r13_1 {S : zSt} {a : Nat} (h : S.1.1 = a + 1) : (kobj S a).1.2.2.2 (a + 13) 1 = some (a + 14) := (Eq.trans (congrFun (k11e_old (ob_z4 h) (by omega) (by omega)).1 1) (k11d_r13_1 (ob_z2 h)))
theorem ob_r13_8 {S : zSt} {a : Nat} (h : S.1.1 = a + 1) : (kobj S a).1.2.2.2 (a + 13) 8 = some (a + 15) := (Eq.trans (congrFun (k11e_old (ob_z4 h) (by omega) (by omega)).1 8) (k11d_r13_8 (ob_z2 h)))
theorem ob_r13_9 {S : zSt} {a : Nat} (h : S.1.1 = a + 1) : (kobj S a).1.2.2.2 (a + 13) 9 = some (a + 17) := (Eq.trans (congrFun (k11e_old (ob_z4 h) (by omega) (by omega)).1 9) (k11d_r13_9 (ob_z2 h)))
theorem ob_r13_10 {S : zSt} {a : Nat} (h : S.1.1 = a + 1) : (kobj S a).1.2.2.2 (a + 13) 10 = some (a + 20) := (Eq.trans (congrFun (k11e_old (ob_z4 h) (by omega) (by omega)).1 10) (k11d_r13_10 (ob_z2 h)))
theorem ob_r13_12 {S : zSt} {a : Nat} (h : S.1.1 = a + 1) : (kobj S a).1.2.2.2 (a + 13) 12 = some (a + 21) := (Eq.trans (congrFun (k11e_old (ob_z4 h) (by omega) (by omega)).1 12) (k11d_r13_12 (ob_z2 h)))
theorem ob_r13_13 {S : zSt} {a : Nat} (h : S.1.1 = a + 1) : (kobj S a).1.2.2.2 (a + 13) 13 = some (a + 22) := (Eq.trans (congrFun (k11e_old (ob_z4 h) (by omega) (by omega)).1 13) (k11d_r13_13 (ob_z2 h)))
theorem ob_n13 {k : Nat} {S : zSt} {a : Nat} (h : S.1.1 = a + 1) (h1 : k ≠ 1) (h8 : k ≠ 8) (h9 : k ≠ 9) (h10 : k ≠ 10) (h12 : k ≠ 12) (h13 : k ≠ 13) : (kobj S a).1.2.2.2 (a + 13) k = none := (Eq.trans (congrFun (k11e_old (ob_z4 h) (by omega) (by omega)).1 k) (k11d_n13 (ob_z2 h) h1 h8 h9 h10 h12 h13))
theorem ob_f13 {k : Nat} {S : zSt} {a : Nat} (h : S.1.1 = a + 1) : (kobj S a).2 (a + 13) k = 0 := (Eq.trans (congrFun (k11e_old (ob_z4 h) (by omega) (by omega)).2.1 k) (k11d_f13 (ob_z2 h)))
theorem ob_t14 {S : zSt} {a : Nat} (h : S.1.1 = a + 1) : (kobj S a).1.2.1 (a + 14) = 16 ∧ (kobj S a).1.2.2.1 (a + 14) = 4 := ⟨(Eq.trans (k11e_old (ob_z4 h) (by omega) (by omega)).2.2.1 (k11d_t14 (ob_z2 h)).1), (Eq.trans (k11e_old (ob_z4 h) (by omega) (by omega)).2.2.2 (k11d_t14 (ob_z2 h)).2)⟩
theorem ob_n14 {k : Nat} {S : zSt} {a : Nat} (h : S.1.1 = a + 1)  : (kobj S a).1.2.2.2 (a + 14) k = none := (Eq.trans (congrFun (k11e_old (ob_z4 h) (by omega) (by omega)).1 k) (k11d_n14 (ob_z2 h)))
theorem ob_f14 {k : Nat} {S : zSt} {a : Nat} (h : S.1.1 = a + 1) : (kobj S a).2 (a + 14) k = 0 := (Eq.trans (congrFun (k11e_old (ob_z4 h) (by omega) (by omega)).2.1 k) (k11d_f14 (ob_z2 h)))
theorem ob_t15 {S : zSt} {a : Nat} (h : S.1.1 = a + 1) : (kobj S a).1.2.1 (a + 15) = 10 ∧ (kobj S a).1.2.2.1 (a + 15) = 0 := ⟨(Eq.trans (k11e_old (ob_z4 h) (by omega) (by omega)).2.2.1 (k11d_t15 (ob_z2 h)).1), (Eq.trans (k11e_old (ob_z4 h) (by omega) (by omega)).2.2.2 (k11d_t15 (ob_z2 h)).2)⟩
theorem ob_r15_0 {S : zSt} {a : Nat} (h : S.1.1 = a + 1) : (kobj S a).1.2.2.2 (a + 15) 0 = some (a + 16) := (Eq.trans (congrFun (k11e_old (ob_z4 h) (by omega) (by omega)).1 0) (k11d_r15_0 (ob_z2 h)))
theorem ob_n15 {k : Nat} {S : zSt} {a : Nat} (h : S.1.1 = a + 1) (h0 : k ≠ 0) : (kobj S a).1.2.2.2 (a + 15) k = none := (Eq.trans (congrFun (k11e_old (ob_z4 h) (by omega) (by omega)).1 k) (k11d_n15 (ob_z2 h) h0))
theorem ob_f15 {k : Nat} {S : zSt} {a : Nat} (h : S.1.1 = a + 1) : (kobj S a).2 (a + 15) k = 0 := (Eq.trans (congrFun (k11e_old (ob_z4 h) (by omega) (by omega)).2.1 k) (k11d_f15 (ob_z2 h)))
theorem ob_t16 {S : zSt} {a : Nat} (h : S.1.1 = a + 1) : (kobj S a).1.2.1 (a + 16) = 15 ∧ (kobj S a).1.2.2.1 (a + 16) = 100 := ⟨(Eq.trans (k11e_old (ob_z4 h) (by omega) (by omega)).2.2.1 (k11d_t16 (ob_z2 h)).1), (Eq.trans (k11e_old (ob_z4 h) (by omega) (by omega)).2.2.2 (k11d_t16 (ob_z2 h)).2)⟩
theorem ob_n16 {k : Nat} {S : zSt} {a : Nat} (h : S.1.1 = a + 1)  : (kobj S a).1.2.2.2 (a + 16) k = none := (Eq.trans (congrFun (k11e_old (ob_z4 h) (by omega) (by omega)).1 k) (k11d_n16 (ob_z2 h)))
theorem ob_f16 {k : Nat} {S : zSt} {a : Nat} (h : S.1.1 = a + 1) : (kobj S a).2 (a + 16) k = 0 := (Eq.trans (congrFun (k11e_old (ob_z4 h) (by omega) (by omega)).2.1 k) (k11d_f16 (ob_z2 h)))
theorem ob_t17 {S : zSt} {a : Nat} (h : S.1.1 = a + 1) : (kobj S a).1.2.1 (a + 17) = 3 ∧ (kobj S a).1.2.2.1 (a + 17) = 0 := ⟨(Eq.trans (k11e_old (ob_z4 h) (by omega) (by omega)).2.2.1 (k11d_t17 (ob_z2 h)).1), (Eq.trans (k11e_old (ob_z4 h) (by omega) (by omega)).2.2.2 (k11d_t17 (ob_z2 h)).2)⟩
theorem ob_r17_0 {S : zSt} {a : Nat} (h : S.1.1 = a + 1) : (kobj S a).1.2.2.2 (a + 17) 0 = some (a + 18) := (Eq.trans (congrFun (k11e_old (ob_z4 h) (by omega) (by omega)).1 0) (k11d_r17_0 (ob_z2 h)))
theorem ob_r17_4 {S : zSt} {a : Nat} (h : S.1.1 = a + 1) : (kobj S a).1.2.2.2 (a + 17) 4 = some (a + 19) := (Eq.trans (congrFun (k11e_old (ob_z4 h) (by omega) (by omega)).1 4) (k11d_r17_4 (ob_z2 h)))
theorem ob_n17 {k : Nat} {S : zSt} {a : Nat} (h : S.1.1 = a + 1) (h0 : k ≠ 0) (h4 : k ≠ 4) : (kobj S a).1.2.2.2 (a + 17) k = none := (Eq.trans (congrFun (k11e_old (ob_z4 h) (by omega) (by omega)).1 k) (k11d_n17 (ob_z2 h) h0 h4))
theorem ob_f17 {k : Nat} {S : zSt} {a : Nat} (h : S.1.1 = a + 1) : (kobj S a).2 (a + 17) k = 0 := (Eq.trans (congrFun (k11e_old (ob_z4 h) (by omega) (by omega)).2.1 k) (k11d_f17 (ob_z2 h)))
theorem ob_t18 {S : zSt} {a : Nat} (h : S.1.1 = a + 1) : (kobj S a).1.2.1 (a + 18) = 13 ∧ (kobj S a).1.2.2.1 (a + 18) = 1000 := ⟨(Eq.trans (k11e_old (ob_z4 h) (by omega) (by omega)).2.2.1 (k11d_t18 (ob_z2 h)).1), (Eq.trans (k11e_old (ob_z4 h) (by omega) (by omega)).2.2.2 (k11d_t18 (ob_z2 h)).2)⟩
theorem ob_n18 {k : Nat} {S : zSt} {a : Nat} (h : S.1.1 = a + 1)  : (kobj S a).1.2.2.2 (a + 18) k = none := (Eq.trans (congrFun (k11e_old (ob_z4 h) (by omega) (by omega)).1 k) (k11d_n18 (ob_z2 h)))
theorem ob_f18 {k : Nat} {S : zSt} {a : Nat} (h : S.1.1 = a + 1) : (kobj S a).2 (a + 18) k = 0 := (Eq.trans (congrFun (k11e_old (ob_z4 h) (by omega) (by omega)).2.1 k) (k11d_f18 (ob_z2 h)))
theorem ob_t19 {S : zSt} {a : Nat} (h : S.1.1 = a + 1) : (kobj S a).1.2.1 (a + 19) = 13 ∧ (kobj S a).1.2.2.1 (a + 19) = 1000 := ⟨(Eq.trans (k11e_old (ob_z4 h) (by omega) (by omega)).2.2.1 (k11d_t19 (ob_z2 h)).1), (Eq.trans (k11e_old (ob_z4 h) (by omega) (by omega)).2.2.2 (k11d_t19 (ob_z2 h)).2)⟩
theorem ob_n19 {k : Nat} {S : zSt} {a : Nat} (h : S.1.1 = a + 1)  : (kobj S a).1.2.2.2 (a + 19) k = none := (Eq.trans (congrFun (k11e_old (ob_z4 h) (by omega) (by omega)).1 k) (k11d_n19 (ob_z2 h)))
theorem ob_f19 {k : Nat} {S : zSt} {a : Nat} (h : S.1.1 = a + 1) : (kobj S a).2 (a + 19) k = 0 := (Eq.trans (congrFun (k11e_old (ob_z4 h) (by omega) (by omega)).2.1 k) (k11d_f19 (ob_z2 h)))
theorem ob_t20 {S : zSt} {a : Nat} (h : S.1.1 = a + 1) : (kobj S a).1.2.1 (a + 20) = 13 ∧ (kobj S a).1.2.2.1 (a + 20) = 60 := ⟨(Eq.trans (k11e_old (ob_z4 h) (by omega) (by omega)).2.2.1 (k11d_t20 (ob_z2 h)).1), (Eq.trans (k11e_old (ob_z4 h) (by omega) (by omega)).2.2.2 (k11d_t20 (ob_z2 h)).2)⟩
theorem ob_n20 {k : Nat} {S : zSt} {a : Nat} (h : S.1.1 = a + 1)  : (kobj S a).1.2.2.2 (a + 20) k = none := (Eq.trans (congrFun (k11e_old (ob_z4 h) (by omega) (by omega)).1 k) (k11d_n20 (ob_z2 h)))
theorem ob_f20 {k : Nat} {S : zSt} {a : Nat} (h : S.1.1 = a + 1) : (kobj S a).2 (a + 20) k = 0 := (Eq.trans (congrFun (k11e_old (ob_z4 h) (by omega) (by omega)).2.1 k) (k11d_f20 (ob_z2 h)))
theorem ob_t21 {S : zSt} {a : Nat} (h : S.1.1 = a + 1) : (kobj S a).1.2.1 (a + 21) = 13 ∧ (kobj S a).1.2.2.1 (a + 21) = 6 := ⟨(Eq.trans (k11e_old (ob_z4 h) (by omega) (by omega)).2.2.1 (k11d_t21 (ob_z2 h)).1), (Eq.trans (k11e_old (ob_z4 h) (by omega) (by omega)).2.2.2 (k11d_t21 (ob_z2 h)).2)⟩
theorem ob_n21 {k : Nat} {S : zSt} {a : Nat} (h : S.1.1 = a + 1)  : (kobj S a).1.2.2.2 (a + 21) k = none := (Eq.trans (congrFun (k11e_old (ob_z4 h) (by omega) (by omega)).1 k) (k11d_n21 (ob_z2 h)))
theorem ob_f21 {k : Nat} {S : zSt} {a : Nat} (h : S.1.1 = a + 1) : (kobj S a).2 (a + 21) k = 0 := (Eq.trans (congrFun (k11e_old (ob_z4 h) (by omega) (by omega)).2.1 k) (k11d_f21 (ob_z2 h)))
theorem ob_t22 {S : zSt} {a : Nat} (h : S.1.1 = a + 1) : (kobj S a).1.2.1 (a + 22) = 5 ∧ (kobj S a).1.2.2.1 (a + 22) = 0 := ⟨(Eq.trans (k11e_old (ob_z4 h) (by omega) (by omega)).2.2.1 (k11d_t22 (ob_z2 h)).1), (Eq.trans (k11e_old (ob_z4 h) (by omega) (by omega)).2.2.2 (k11d_t22 (ob_z2 h)).2)⟩
theorem ob_r22_0 {S : zSt} {a : Nat} (h : S.1.1 = a + 1) : (kobj S a).1.2.2.2 (a + 22) 0 = some (a + 23) := (Eq.trans (congrFun (k11e_old (ob_z4 h) (by omega) (by omega)).1 0) (k11d_r22_0 (ob_z2 h)))
theorem ob_r22_1 {S : zSt} {a : Nat} (h : S.1.1 = a + 1) : (kobj S a).1.2.2.2 (a + 22) 1 = some (a + 24) := (Eq.trans (congrFun (k11e_old (ob_z4 h) (by omega) (by omega)).1 1) (k11d_r22_1 (ob_z2 h)))
theorem ob_r22_3 {S : zSt} {a : Nat} (h : S.1.1 = a + 1) : (kobj S a).1.2.2.2 (a + 22) 3 = some (a + 25) := (Eq.trans (congrFun (k11e_old (ob_z4 h) (by omega) (by omega)).1 3) (k11d_r22_3 (ob_z2 h)))
theorem ob_n22 {k : Nat} {S : zSt} {a : Nat} (h : S.1.1 = a + 1) (h0 : k ≠ 0) (h1 : k ≠ 1) (h3 : k ≠ 3) : (kobj S a).1.2.2.2 (a + 22) k = none := (Eq.trans (congrFun (k11e_old (ob_z4 h) (by omega) (by omega)).1 k) (k11d_n22 (ob_z2 h) h0 h1 h3))
theorem ob_f22 {k : Nat} {S : zSt} {a : Nat} (h : S.1.1 = a + 1) : (kobj S a).2 (a + 22) k = 0 := (Eq.trans (congrFun (k11e_old (ob_z4 h) (by omega) (by omega)).2.1 k) (k11d_f22 (ob_z2 h)))
theorem ob_t23 {S : zSt} {a : Nat} (h : S.1.1 = a + 1) : (kobj S a).1.2.1 (a + 23) = 18 ∧ (kobj S a).1.2.2.1 (a + 23) = 1000 := ⟨(Eq.trans (k11e_old (ob_z4 h) (by omega) (by omega)).2.2.1 (k11d_t23 (ob_z2 h)).1), (Eq.trans (k11e_old (ob_z4 h) (by omega) (by omega)).2.2.2 (k11d_t23 (ob_z2 h)).2)⟩
theorem ob_n23 {k : Nat} {S : zSt} {a : Nat} (h : S.1.1 = a + 1)  : (kobj S a).1.2.2.2 (a + 23) k = none := (Eq.trans (congrFun (k11e_old (ob_z4 h) (by omega) (by omega)).1 k) (k11d_n23 (ob_z2 h)))
theorem ob_f23 {k : Nat} {S : zSt} {a : Nat} (h : S.1.1 = a + 1) : (kobj S a).2 (a + 23) k = 0 := (Eq.trans (congrFun (k11e_old (ob_z4 h) (by omega) (by omega)).2.1 k) (k11d_f23 (ob_z2 h)))
theorem ob_t24 {S : zSt} {a : Nat} (h : S.1.1 = a + 1) : (kobj S a).1.2.1 (a + 24) = 13 ∧ (kobj S a).1.2.2.1 (a + 24) = 1000 := ⟨(Eq.trans (k11e_old (ob_z4 h) (by omega) (by omega)).2.2.1 (k11d_t24 (ob_z2 h)).1), (Eq.trans (k11e_old (ob_z4 h) (by omega) (by omega)).2.2.2 (k11d_t24 (ob_z2 h)).2)⟩
theorem ob_n24 {k : Nat} {S : zSt} {a : Nat} (h : S.1.1 = a + 1)  : (kobj S a).1.2.2.2 (a + 24) k = none := (Eq.trans (congrFun (k11e_old (ob_z4 h) (by omega) (by omega)).1 k) (k11d_n24 (ob_z2 h)))
theorem ob_f24 {k : Nat} {S : zSt} {a : Nat} (h : S.1.1 = a + 1) : (kobj S a).2 (a + 24) k = 0 := (Eq.trans (congrFun (k11e_old (ob_z4 h) (by omega) (by omega)).2.1 k) (k11d_f24 (ob_z2 h)))
theorem ob_t25 {S : zSt} {a : Nat} (h : S.1.1 = a + 1) : (kobj S a).1.2.1 (a + 25) = 13 ∧ (kobj S a).1.2.2.1 (a + 25) = 1000 := ⟨(Eq.trans (k11e_old (ob_z4 h) (by omega) (by omega)).2.2.1 (k11d_t25 (ob_z2 h)).1), (Eq.trans (k11e_old (ob_z4 h) (by omega) (by omega)).2.2.2 (k11d_t25 (ob_z2 h)).2)⟩
theorem ob_n25 {k : Nat} {S : zSt} {a : Nat} (h : S.1.1 = a + 1)  : (kobj S a).1.2.2.2 (a + 25) k = none := (Eq.trans (congrFun (k11e_old (ob_z4 h) (by omega) (by omega)).1 k) (k11d_n25 (ob_z2 h)))
theorem ob_f25 {k : Nat} {S : zSt} {a : Nat} (h : S.1.1 = a + 1) : (kobj S a).2 (a + 25) k = 0 := (Eq.trans (congrFun (k11e_old (ob_z4 h) (by omega) (by omega)).2.1 k) (k11d_f25 (ob_z2 h)))
theorem ob_t26 {S : zSt} {a : Nat} (h : S.1.1 = a + 1) : (kobj S a).1.2.1 (a + 26) = 17 ∧ (kobj S a).1.2.2.1 (a + 26) = 2 := ⟨(k11e_t26 (ob_z4 h)).1, (k11e_t26 (ob_z4 h)).2⟩
theorem ob_n26 {k : Nat} {S : zSt} {a : Nat} (h : S.1.1 = a + 1)  : (kobj S a).1.2.2.2 (a + 26) k = none := (k11e_n26 (ob_z4 h))
theorem ob_f26 {k : Nat} {S : zSt} {a : Nat} (h : S.1.1 = a + 1) : (kobj S a).2 (a + 26) k = 0 := (k11e_f26 (ob_z4 h))
theorem ob_r0_0 {S : zSt} {a : Nat} (h : S.1.1 = a + 1) : (kobj S a).1.2.2.2 (a + 0) 0 = some (a + 1) := (Eq.trans ((k11e_own (ob_z4 h)).2.2.1 0 (by decide) (by decide)) (Eq.trans ((k11d_own (ob_z2 h)).2.1 0 (by decide)) (Eq.trans ((k11b_own (ob_z1 h)).2.1 0 (by decide)) (k11a_own h).1)))
theorem ob_r0_2 {S : zSt} {a : Nat} (h : S.1.1 = a + 1) : (kobj S a).1.2.2.2 (a + 0) 2 = some (a + 2) := (Eq.trans ((k11e_own (ob_z4 h)).2.2.1 2 (by decide) (by decide)) (Eq.trans ((k11d_own (ob_z2 h)).2.1 2 (by decide)) (k11b_own (ob_z1 h)).1))
theorem ob_r0_3 {S : zSt} {a : Nat} (h : S.1.1 = a + 1) : (kobj S a).1.2.2.2 (a + 0) 3 = some (a + 9) := (Eq.trans ((k11e_own (ob_z4 h)).2.2.1 3 (by decide) (by decide)) (k11d_own (ob_z2 h)).1)
theorem ob_r0_4 {S : zSt} {a : Nat} (h : S.1.1 = a + 1) : (kobj S a).1.2.2.2 (a + 0) 4 = some (a + 13) := (k11e_own (ob_z4 h)).1
theorem ob_r0_5 {S : zSt} {a : Nat} (h : S.1.1 = a + 1) : (kobj S a).1.2.2.2 (a + 0) 5 = some (a + 26) := (k11e_own (ob_z4 h)).2.1
theorem ob_t0 {S : zSt} {a : Nat} (h : S.1.1 = a + 1) (h0 : S.1.2.1 a = 11) : (kobj S a).1.2.1 (a + 0) = 11 := (Eq.trans ((k11e_own (ob_z4 h)).2.2.2.2.2.1) (Eq.trans ((k11d_own (ob_z2 h)).2.2.2.2.1) (Eq.trans ((k11b_own (ob_z1 h)).2.2.2.2.1) (Eq.trans ((k11a_own h).2.2.2.2.1) h0))))
theorem ob_f0 {k : Nat} {S : zSt} {a : Nat} (h : S.1.1 = a + 1) (h0 : ∀ k, S.2 a k = 0) : (kobj S a).2 (a + 0) k = 0 := by
  by_cases h1 : k = 1
  · subst h1
    have e0 : (k11a S a).2 a 1 = 0 := ((k11a_own h).2.2.2.1).elim (fun q => q.trans (h0 1)) (fun q => q)
    have e1 : (k11b (k11a S a) a).2 a 1 = 0 := ((k11b_own (ob_z1 h)).2.2.2.1).elim (fun q => q.trans e0) (fun q => q)
    have e3 : (k11d (k11b (k11a S a) a) a).2 a 1 = 0 := ((k11d_own (ob_z2 h)).2.2.2.1).elim (fun q => q.trans e1) (fun q => q)
    exact ((k11e_own (ob_z4 h)).2.2.2.2.1).elim (fun q => q.trans e3) (fun q => q)
  · exact (Eq.trans ((k11e_own (ob_z4 h)).2.2.2.1 k h1) (Eq.trans ((k11d_own (ob_z2 h)).2.2.1 k h1) (Eq.trans ((k11b_own (ob_z1 h)).2.2.1 k h1) (Eq.trans ((k11a_own h).2.2.1 k h1) (h0 k)))))
theorem ob_old {y : Nat} {S : zSt} {a : Nat} (h : S.1.1 = a + 1) (hy : y < a) : (kobj S a).1.2.2.2 y = S.1.2.2.2 y ∧ (kobj S a).2 y = S.2 y ∧ (kobj S a).1.2.1 y = S.1.2.1 y ∧ (kobj S a).1.2.2.1 y = S.1.2.2.1 y := ⟨(Eq.trans (k11e_old (ob_z4 h) (by omega) (by omega)).1 (Eq.trans (k11d_old (ob_z2 h) (by omega) (by omega)).1 (Eq.trans (k11b_old (ob_z1 h) (by omega) (by omega)).1 (k11a_old h (by omega) (by omega)).1))), (Eq.trans (k11e_old (ob_z4 h) (by omega) (by omega)).2.1 (Eq.trans (k11d_old (ob_z2 h) (by omega) (by omega)).2.1 (Eq.trans (k11b_old (ob_z1 h) (by omega) (by omega)).2.1 (k11a_old h (by omega) (by omega)).2.1))), (Eq.trans (k11e_old (ob_z4 h) (by omega) (by omega)).2.2.1 (Eq.trans (k11d_old (ob_z2 h) (by omega) (by omega)).2.2.1 (Eq.trans (k11b_old (ob_z1 h) (by omega) (by omega)).2.2.1 (k11a_old h (by omega) (by omega)).2.2.1))), (Eq.trans (k11e_old (ob_z4 h) (by omega) (by omega)).2.2.2 (Eq.trans (k11d_old (ob_z2 h) (by omega) (by omega)).2.2.2 (Eq.trans (k11b_old (ob_z1 h) (by omega) (by omega)).2.2.2 (k11a_old h (by omega) (by omega)).2.2.2)))⟩
theorem ob_CW {b0 : Nat} {S : zSt} {a : Nat} (h : S.1.1 = a + 1) (hb : b0 ≤ a) (h0 : S.1.2.1 a = 11) : CW b0 (kobj S a).1 a := by
  refine ⟨hb, by rw [ob_z5 h]; exact Nat.le_refl _, fun j q hj => ?_⟩
  have hl : j < 27 := (List.getElem?_eq_some_iff.mp hj).1
  have hjs : j = 0 ∨ j = 1 ∨ j = 2 ∨ j = 3 ∨ j = 4 ∨ j = 5 ∨ j = 6 ∨ j = 7 ∨ j = 8 ∨ j = 9 ∨ j = 10 ∨ j = 11 ∨ j = 12 ∨ j = 13 ∨ j = 14 ∨ j = 15 ∨ j = 16 ∨ j = 17 ∨ j = 18 ∨ j = 19 ∨ j = 20 ∨ j = 21 ∨ j = 22 ∨ j = 23 ∨ j = 24 ∨ j = 25 ∨ j = 26 := by omega
  rcases hjs with rfl | rfl | rfl | rfl | rfl | rfl | rfl | rfl | rfl | rfl | rfl | rfl | rfl | rfl | rfl | rfl | rfl | rfl | rfl | rfl | rfl | rfl | rfl | rfl | rfl | rfl | rfl
  · cases hj; exact ⟨ob_t0 h h0, fun q => absurd q (by decide)⟩
  · cases hj; exact ⟨(ob_t1 h).1, fun _ => (ob_t1 h).2⟩
  · cases hj; exact ⟨(ob_t2 h).1, fun _ => (ob_t2 h).2⟩
  · cases hj; exact ⟨(ob_t3 h).1, fun _ => (ob_t3 h).2⟩
  · cases hj; exact ⟨(ob_t4 h).1, fun _ => (ob_t4 h).2⟩
  · cases hj; exact ⟨(ob_t5 h).1, fun _ => (ob_t5 h).2⟩
  · cases hj; exact ⟨(ob_t6 h).1, fun _ => (ob_t6 h).2⟩
  · cases hj; exact ⟨(ob_t7 h).1, fun _ => (ob_t7 h).2⟩
  · cases hj; exact ⟨(ob_t8 h).1, fun _ => (ob_t8 h).2⟩
  · cases hj; exact ⟨(ob_t9 h).1, fun _ => (ob_t9 h).2⟩
  · cases hj; exact ⟨(ob_t10 h).1, fun _ => (ob_t10 h).2⟩
  · cases hj; exact ⟨(ob_t11 h).1, fun _ => (ob_t11 h).2⟩
  · cases hj; exact ⟨(ob_t12 h).1, fun _ => (ob_t12 h).2⟩
  · cases hj; exact ⟨(ob_t22 h).1, fun _ => (ob_t22 h).2⟩
  · cases hj; exact ⟨(ob_t23 h).1, fun _ => (ob_t23 h).2⟩
  · cases hj; exact ⟨(ob_t24 h).1, fun _ => (ob_t24 h).2⟩
  · cases hj; exact ⟨(ob_t25 h).1, fun _ => (ob_t25 h).2⟩
  · cases hj; exact ⟨(ob_t13 h).1, fun _ => (ob_t13 h).2⟩
  · cases hj; exact ⟨(ob_t14 h).1, fun _ => (ob_t14 h).2⟩
  · cases hj; exact ⟨(ob_t15 h).1, fun _ => (ob_t15 h).2⟩
  · cases hj; exact ⟨(ob_t16 h).1, fun _ => (ob_t16 h).2⟩
  · cases hj; exact ⟨(ob_t17 h).1, fun _ => (ob_t17 h).2⟩
  · cases hj; exact ⟨(ob_t18 h).1, fun _ => (ob_t18 h).2⟩
  · cases hj; exact ⟨(ob_t19 h).1, fun _ => (ob_t19 h).2⟩
  · cases hj; exact ⟨(ob_t20 h).1, fun _ => (ob_t20 h).2⟩
  · cases hj; exact ⟨(ob_t21 h).1, fun _ => (ob_t21 h).2⟩
  · cases hj; exact ⟨(ob_t26 h).1, fun _ => (ob_t26 h).2⟩
theorem ob_CF {S : zSt} {a : Nat} (h : S.1.1 = a + 1) : CF a (fun j => (kobj S a).1.2.2.2 (a + bP j)) := by
  intro q hq
  have hqs : q = (0, 0, 1) ∨ q = (0, 2, 2) ∨ q = (0, 3, 9) ∨ q = (0, 4, 13) ∨ q = (0, 5, 26) ∨ q = (0, 5, 26) ∨ q = (2, 0, 3) ∨ q = (2, 4, 4) ∨ q = (2, 5, 5) ∨ q = (2, 6, 6) ∨ q = (2, 7, 7) ∨ q = (2, 8, 8) ∨ q = (9, 0, 10) ∨ q = (9, 3, 11) ∨ q = (9, 4, 12) ∨ q = (13, 0, 23) ∨ q = (13, 1, 24) ∨ q = (13, 3, 25) ∨ q = (17, 1, 14) ∨ q = (17, 8, 15) ∨ q = (17, 9, 17) ∨ q = (17, 10, 20) ∨ q = (17, 12, 21) ∨ q = (17, 13, 22) ∨ q = (19, 0, 16) ∨ q = (21, 0, 18) ∨ q = (21, 4, 19) := by
    simpa [bF] using hq
  rcases hqs with rfl | rfl | rfl | rfl | rfl | rfl | rfl | rfl | rfl | rfl | rfl | rfl | rfl | rfl | rfl | rfl | rfl | rfl | rfl | rfl | rfl | rfl | rfl | rfl | rfl | rfl | rfl
  · exact ob_r0_0 h
  · exact ob_r0_2 h
  · exact ob_r0_3 h
  · exact ob_r0_4 h
  · exact ob_r0_5 h
  · exact ob_r0_5 h
  · exact ob_r2_0 h
  · exact ob_r2_4 h
  · exact ob_r2_5 h
  · exact ob_r2_6 h
  · exact ob_r2_7 h
  · exact ob_r2_8 h
  · exact ob_r9_0 h
  · exact ob_r9_3 h
  · exact ob_r9_4 h
  · exact ob_r22_0 h
  · exact ob_r22_1 h
  · exact ob_r22_3 h
  · exact ob_r13_1 h
  · exact ob_r13_8 h
  · exact ob_r13_9 h
  · exact ob_r13_10 h
  · exact ob_r13_12 h
  · exact ob_r13_13 h
  · exact ob_r15_0 h
  · exact ob_r17_0 h
  · exact ob_r17_4 h
theorem ob_OK {b0 : Nat} {S : zSt} {a : Nat} (h : S.1.1 = a + 1) (hb : b0 ≤ a) (h0 : S.1.2.1 a = 11) (hw : zOK b0 (fun y => y = a ∨ a + 1 ≤ y) (kobj S a).1) : zOK b0 zNo (kobj S a).1 := by
  refine hw.whole (fun y hy _ _ hlt q hq hc => ?_)
  rw [ob_z5 h] at hlt
  obtain ⟨j, rfl, hl⟩ : ∃ j, y = a + j ∧ j < 27 := ⟨y - a, by omega, by omega⟩
  have hsh := hq
  have hjs : j = 0 ∨ j = 1 ∨ j = 2 ∨ j = 3 ∨ j = 4 ∨ j = 5 ∨ j = 6 ∨ j = 7 ∨ j = 8 ∨ j = 9 ∨ j = 10 ∨ j = 11 ∨ j = 12 ∨ j = 13 ∨ j = 14 ∨ j = 15 ∨ j = 16 ∨ j = 17 ∨ j = 18 ∨ j = 19 ∨ j = 20 ∨ j = 21 ∨ j = 22 ∨ j = 23 ∨ j = 24 ∨ j = 25 ∨ j = 26 := by omega
  rcases hjs with rfl | rfl | rfl | rfl | rfl | rfl | rfl | rfl | rfl | rfl | rfl | rfl | rfl | rfl | rfl | rfl | rfl | rfl | rfl | rfl | rfl | rfl | rfl | rfl | rfl | rfl | rfl
  · rw [ob_t0 h h0] at hc
    have hk := (show ∀ q ∈ zSh, 11 = q.1 → q = (11, 0, some 120) ∨ q = (11, 2, none) ∨ q = (11, 3, none) ∨ q = (11, 4, none) ∨ q = (11, 5, some 2) by decide +kernel) q hq hc
    rcases hk with rfl | rfl | rfl | rfl | rfl
    · exact ⟨_, ob_r0_0 h, fun n hn => by cases hn; exact (ob_t1 h).2⟩
    · exact ⟨_, ob_r0_2 h, fun n hn => by cases hn⟩
    · exact ⟨_, ob_r0_3 h, fun n hn => by cases hn⟩
    · exact ⟨_, ob_r0_4 h, fun n hn => by cases hn⟩
    · exact ⟨_, ob_r0_5 h, fun n hn => by cases hn; exact (ob_t26 h).2⟩
  · rw [(ob_t1 h).1] at hc
    exact absurd hc.symm ((show ∀ q ∈ zSh, q.1 ≠ 13 by decide +kernel) q hq)
  · rw [(ob_t2 h).1] at hc
    have hk := (show ∀ q ∈ zSh, 6 = q.1 → q = (6, 0, some 120) ∨ q = (6, 4, some 121) ∨ q = (6, 5, some 121) ∨ q = (6, 6, some 121) ∨ q = (6, 7, some 121) ∨ q = (6, 8, some 121) by decide +kernel) q hq hc
    rcases hk with rfl | rfl | rfl | rfl | rfl | rfl
    · exact ⟨_, ob_r2_0 h, fun n hn => by cases hn; exact (ob_t3 h).2⟩
    · exact ⟨_, ob_r2_4 h, fun n hn => by cases hn; exact (ob_t4 h).2⟩
    · exact ⟨_, ob_r2_5 h, fun n hn => by cases hn; exact (ob_t5 h).2⟩
    · exact ⟨_, ob_r2_6 h, fun n hn => by cases hn; exact (ob_t6 h).2⟩
    · exact ⟨_, ob_r2_7 h, fun n hn => by cases hn; exact (ob_t7 h).2⟩
    · exact ⟨_, ob_r2_8 h, fun n hn => by cases hn; exact (ob_t8 h).2⟩
  · rw [(ob_t3 h).1] at hc
    exact absurd hc.symm ((show ∀ q ∈ zSh, q.1 ≠ 14 by decide +kernel) q hq)
  · rw [(ob_t4 h).1] at hc
    exact absurd hc.symm ((show ∀ q ∈ zSh, q.1 ≠ 14 by decide +kernel) q hq)
  · rw [(ob_t5 h).1] at hc
    exact absurd hc.symm ((show ∀ q ∈ zSh, q.1 ≠ 13 by decide +kernel) q hq)
  · rw [(ob_t6 h).1] at hc
    exact absurd hc.symm ((show ∀ q ∈ zSh, q.1 ≠ 13 by decide +kernel) q hq)
  · rw [(ob_t7 h).1] at hc
    exact absurd hc.symm ((show ∀ q ∈ zSh, q.1 ≠ 13 by decide +kernel) q hq)
  · rw [(ob_t8 h).1] at hc
    exact absurd hc.symm ((show ∀ q ∈ zSh, q.1 ≠ 14 by decide +kernel) q hq)
  · rw [(ob_t9 h).1] at hc
    have hk := (show ∀ q ∈ zSh, 4 = q.1 → q = (4, 0, some 240) ∨ q = (4, 3, some 240) ∨ q = (4, 4, some 240) by decide +kernel) q hq hc
    rcases hk with rfl | rfl | rfl
    · exact ⟨_, ob_r9_0 h, fun n hn => by cases hn; exact (ob_t10 h).2⟩
    · exact ⟨_, ob_r9_3 h, fun n hn => by cases hn; exact (ob_t11 h).2⟩
    · exact ⟨_, ob_r9_4 h, fun n hn => by cases hn; exact (ob_t12 h).2⟩
  · rw [(ob_t10 h).1] at hc
    exact absurd hc.symm ((show ∀ q ∈ zSh, q.1 ≠ 13 by decide +kernel) q hq)
  · rw [(ob_t11 h).1] at hc
    exact absurd hc.symm ((show ∀ q ∈ zSh, q.1 ≠ 14 by decide +kernel) q hq)
  · rw [(ob_t12 h).1] at hc
    exact absurd hc.symm ((show ∀ q ∈ zSh, q.1 ≠ 13 by decide +kernel) q hq)
  · rw [(ob_t13 h).1] at hc
    have hk := (show ∀ q ∈ zSh, 8 = q.1 → q = (8, 1, some 4) ∨ q = (8, 8, none) ∨ q = (8, 9, none) ∨ q = (8, 10, some 60) ∨ q = (8, 12, some 6) ∨ q = (8, 13, none) by decide +kernel) q hq hc
    rcases hk with rfl | rfl | rfl | rfl | rfl | rfl
    · exact ⟨_, ob_r13_1 h, fun n hn => by cases hn; exact (ob_t14 h).2⟩
    · exact ⟨_, ob_r13_8 h, fun n hn => by cases hn⟩
    · exact ⟨_, ob_r13_9 h, fun n hn => by cases hn⟩
    · exact ⟨_, ob_r13_10 h, fun n hn => by cases hn; exact (ob_t20 h).2⟩
    · exact ⟨_, ob_r13_12 h, fun n hn => by cases hn; exact (ob_t21 h).2⟩
    · exact ⟨_, ob_r13_13 h, fun n hn => by cases hn⟩
  · rw [(ob_t14 h).1] at hc
    exact absurd hc.symm ((show ∀ q ∈ zSh, q.1 ≠ 16 by decide +kernel) q hq)
  · rw [(ob_t15 h).1] at hc
    have hk := (show ∀ q ∈ zSh, 10 = q.1 → q = (10, 0, some 100) by decide +kernel) q hq hc
    rcases hk with rfl
    · exact ⟨_, ob_r15_0 h, fun n hn => by cases hn; exact (ob_t16 h).2⟩
  · rw [(ob_t16 h).1] at hc
    exact absurd hc.symm ((show ∀ q ∈ zSh, q.1 ≠ 15 by decide +kernel) q hq)
  · rw [(ob_t17 h).1] at hc
    have hk := (show ∀ q ∈ zSh, 3 = q.1 → q = (3, 0, some 1000) ∨ q = (3, 4, some 1000) by decide +kernel) q hq hc
    rcases hk with rfl | rfl
    · exact ⟨_, ob_r17_0 h, fun n hn => by cases hn; exact (ob_t18 h).2⟩
    · exact ⟨_, ob_r17_4 h, fun n hn => by cases hn; exact (ob_t19 h).2⟩
  · rw [(ob_t18 h).1] at hc
    exact absurd hc.symm ((show ∀ q ∈ zSh, q.1 ≠ 13 by decide +kernel) q hq)
  · rw [(ob_t19 h).1] at hc
    exact absurd hc.symm ((show ∀ q ∈ zSh, q.1 ≠ 13 by decide +kernel) q hq)
  · rw [(ob_t20 h).1] at hc
    exact absurd hc.symm ((show ∀ q ∈ zSh, q.1 ≠ 13 by decide +kernel) q hq)
  · rw [(ob_t21 h).1] at hc
    exact absurd hc.symm ((show ∀ q ∈ zSh, q.1 ≠ 13 by decide +kernel) q hq)
  · rw [(ob_t22 h).1] at hc
    have hk := (show ∀ q ∈ zSh, 5 = q.1 → q = (5, 0, some 1000) ∨ q = (5, 1, some 1000) ∨ q = (5, 3, some 1000) by decide +kernel) q hq hc
    rcases hk with rfl | rfl | rfl
    · exact ⟨_, ob_r22_0 h, fun n hn => by cases hn; exact (ob_t23 h).2⟩
    · exact ⟨_, ob_r22_1 h, fun n hn => by cases hn; exact (ob_t24 h).2⟩
    · exact ⟨_, ob_r22_3 h, fun n hn => by cases hn; exact (ob_t25 h).2⟩
  · rw [(ob_t23 h).1] at hc
    exact absurd hc.symm ((show ∀ q ∈ zSh, q.1 ≠ 18 by decide +kernel) q hq)
  · rw [(ob_t24 h).1] at hc
    exact absurd hc.symm ((show ∀ q ∈ zSh, q.1 ≠ 13 by decide +kernel) q hq)
  · rw [(ob_t25 h).1] at hc
    exact absurd hc.symm ((show ∀ q ∈ zSh, q.1 ≠ 13 by decide +kernel) q hq)
  · rw [(ob_t26 h).1] at hc
    exact absurd hc.symm ((show ∀ q ∈ zSh, q.1 ≠ 17 by decide +kernel) q hq)
