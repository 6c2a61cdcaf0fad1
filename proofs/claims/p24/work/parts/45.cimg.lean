/-! The class's images, over the block. -/
def gvS (c : Nat) (R : zRf) (C : zI) (S : zSt) : zSt := (gv c S.1 R, cv c S.2 C)
theorem gvS_N {c : Nat} {R : zRf} {C : zI} {S : zSt} {t n : Nat} (h : c + 27 ≤ S.1.1) : uN (gvS c R C S) t n = gvS c R C (uN S t n) := by
  unfold uN gvS
  simp only
  rw [gv_new h, cv_new h]
theorem gvS_R {c : Nat} {R : zRf} {C : zI} {S : zSt} {a k : Nat} {v : Option Nat} (h : ¬ (c ≤ a ∧ a < c + 27)) : uR (gvS c R C S) a k v = gvS c R C (uR S a k v) := by
  unfold uR gvS
  simp only [gv_stD h]
theorem gvS_I {c : Nat} {R : zRf} {C : zI} {S : zSt} {a k : Nat} {v : Int32} (h : ¬ (c ≤ a ∧ a < c + 27)) : uI (gvS c R C S) a k v = gvS c R C (uI S a k v) := by
  unfold uI gvS
  simp only [cv_stD h]
theorem gvS_1 {c : Nat} {R : zRf} {C : zI} {S : zSt} : (gvS c R C S).1.1 = S.1.1 := rfl
theorem gvS_10 {c : Nat} {R : zRf} {C : zI} {S : zSt} {a : Nat} (h : c + 27 ≤ S.1.1) (ho : ¬ (c ≤ a ∧ a < c + 27)) : kiniX10 (gvS c R C S) a = gvS c R C (kiniX10 S a) := by
  unfold kiniX10
  rw [gvS_1, gvS_N h, gvS_R ho]
theorem gvS_3 {c : Nat} {R : zRf} {C : zI} {S : zSt} {a : Nat} (h : c + 27 ≤ S.1.1) (ho : ¬ (c ≤ a ∧ a < c + 27)) : kiniX3 (gvS c R C S) a = gvS c R C (kiniX3 S a) := by
  unfold kiniX3
  rw [gvS_1, gvS_N h, gvS_R ho, gvS_N (by show c + 27 ≤ S.1.1 + 1; omega), gvS_R ho]
theorem gvS_5 {c : Nat} {R : zRf} {C : zI} {S : zSt} {a : Nat} (h : c + 27 ≤ S.1.1) (ho : ¬ (c ≤ a ∧ a < c + 27)) : kiniX5 (gvS c R C S) a = gvS c R C (kiniX5 S a) := by
  unfold kiniX5
  rw [gvS_1, gvS_N h, gvS_R ho, gvS_N (by show c + 27 ≤ S.1.1 + 1; omega), gvS_R ho, gvS_N (by show c + 27 ≤ S.1.1 + 2; omega), gvS_R ho]
theorem gvS_8 {c : Nat} {R : zRf} {C : zI} {S : zSt} {a : Nat} (h : c + 27 ≤ S.1.1) (ho : ¬ (c ≤ a ∧ a < c + 27)) : kiniX8 (gvS c R C S) a = gvS c R C (kiniX8 S a) := by
  unfold kiniX8
  simp only [gvS_1]
  rw [gvS_N h, gvS_R ho, gvS_I ho]
  rw [gvS_N (by show c + 27 ≤ S.1.1 + 1; omega), gvS_10 (by show c + 27 ≤ S.1.1 + 2; omega) (by omega), gvS_R ho]
  rw [gvS_N (by show c + 27 ≤ S.1.1 + 3; omega), gvS_3 (by show c + 27 ≤ S.1.1 + 4; omega) (by omega), gvS_R ho]
  rw [gvS_N (by show c + 27 ≤ S.1.1 + 6; omega), gvS_R ho, gvS_N (by show c + 27 ≤ S.1.1 + 7; omega), gvS_R ho]
  rw [gvS_N (by show c + 27 ≤ S.1.1 + 8; omega), gvS_5 (by show c + 27 ≤ S.1.1 + 9; omega) (by omega), gvS_R ho]
/-- what a new run is -/
theorem kiniX8_z (S : zSt) (a : Nat) : zLe S.1 (kiniX8 S a).1 := by
  unfold kiniX8 kiniX10 kiniX3 kiniX5 uR uN uI
  refine ((((((((((((zLe.new S.1 16 4).tr (zLe.new _ 10 0)).tr (zLe.new _ 15 100)).tr (zLe.new _ 3 0)).tr (zLe.new _ 13 1000)).tr (zLe.new _ 13 1000)).tr (zLe.new _ 13 60)).tr (zLe.new _ 13 6)).tr (zLe.new _ 5 0)).tr (zLe.new _ 18 1000)).tr (zLe.new _ 13 1000)).tr (zLe.new _ 13 1000))
set_option maxRecDepth 20000 in
theorem kiniX8_RA {b0 : Nat} {S : zSt} {a : Nat} (h1 : S.1.1 = a + 1) (hin : zIn b0 S.1 a 8) : RA b0 (kiniX8 S a).1 a := by
  obtain ⟨⟨n, tg, ln, rf⟩, f⟩ := S
  have h1 : n = a + 1 := h1
  subst h1
  obtain ⟨i1, i2, i3⟩ := hin
  have i3 : tg a = 8 := i3
  refine ⟨⟨⟨i1, ?_, ?_⟩, ⟨by omega, ?_, ?_⟩, ⟨by omega, ?_, ?_⟩, ⟨by omega, ?_, ?_⟩, ⟨by omega, ?_, ?_⟩, ⟨by omega, ?_, ?_⟩, ⟨by omega, ?_, ?_⟩, ⟨by omega, ?_, ?_⟩, ⟨by omega, ?_, ?_⟩⟩, ⟨?_, ?_, ?_, ?_, ?_, ?_⟩, ?_, ?_, ?_, ?_, ?_, ?_, ?_, ?_⟩ <;> simp [kiniX8, kiniX10, kiniX3, kiniX5, uR, uN, uI, zpR, znG, znI, zIn, zup, zu1, Nat.add_assoc]
  exact i3
set_option maxRecDepth 20000 in
theorem kiniX8_13 {S : zSt} {a : Nat} (h1 : S.1.1 = a + 1) : (kiniX8 S a).1.2.2.2 a 13 = some (a + 9) ∧ (kiniX8 S a).1.2.1 (a + 9) = 5 ∧ (kiniX8 S a).1.2.2.2 (a + 9) 0 = some (a + 10) ∧ (kiniX8 S a).1.2.2.2 (a + 9) 1 = some (a + 11) ∧ (kiniX8 S a).1.2.2.2 (a + 9) 3 = some (a + 12) ∧ (kiniX8 S a).1.2.2.1 (a + 10) = 1000 ∧ (kiniX8 S a).1.2.2.1 (a + 11) = 1000 ∧ (kiniX8 S a).1.2.2.1 (a + 12) = 1000 := by
  obtain ⟨⟨n, tg, ln, rf⟩, f⟩ := S
  have h1 : n = a + 1 := h1
  subst h1
  refine ⟨?_, ?_, ?_, ?_, ?_, ?_, ?_, ?_⟩ <;> simp [kiniX8, kiniX10, kiniX3, kiniX5, uR, uN, uI, zpR, znG, znI, zIn, zup, zu1, Nat.add_assoc]
set_option maxRecDepth 20000 in
theorem kiniX8_tg {S : zSt} {a : Nat} (h1 : S.1.1 = a + 1) : (kiniX8 S a).1.2.1 (a + 9) = 5 ∧ (kiniX8 S a).1.2.1 (a + 10) = 18 ∧ (kiniX8 S a).1.2.1 (a + 11) = 13 ∧ (kiniX8 S a).1.2.1 (a + 12) = 13 := by
  obtain ⟨⟨n, tg, ln, rf⟩, f⟩ := S
  have h1 : n = a + 1 := h1
  subst h1
  refine ⟨?_, ?_, ?_, ?_⟩ <;> simp [kiniX8, kiniX10, kiniX3, kiniX5, uR, uN, uI, zpR, znG, znI, zIn, zup, zu1, Nat.add_assoc]
set_option maxRecDepth 20000 in
theorem kiniX8_old {S : zSt} {a y : Nat} (h1 : S.1.1 = a + 1) (hy : y < a) : (kiniX8 S a).1.2.2.2 y = S.1.2.2.2 y ∧ (kiniX8 S a).2 y = S.2 y := by
  obtain ⟨⟨n, tg, ln, rf⟩, f⟩ := S
  have h1 : n = a + 1 := h1
  subst h1
  have e : ∀ j, ¬ y = a + j := fun j => by omega
  have e0 : ¬ y = a := by omega
  constructor <;> (funext k; simp [kiniX8, kiniX10, kiniX3, kiniX5, uR, uN, uI, zpR, znG, znI, zup, zu1, Nat.add_assoc, e, e0])
set_option maxRecDepth 20000 in
theorem kiniX8_r {S : zSt} {a k : Nat} (h1 : S.1.1 = a + 1) : (kiniX8 S a).1.2.2.2 (a + 1) k = none ∧ (kiniX8 S a).1.2.2.2 (a + 3) k = none ∧ (k = 0 ∨ k = 4 ∨ k = 5 → (kiniX8 S a).1.2.2.2 a k = S.1.2.2.2 a k) := by
  obtain ⟨⟨n, tg, ln, rf⟩, f⟩ := S
  have h1 : n = a + 1 := h1
  subst h1
  refine ⟨?_, ?_, fun h => ?_⟩
  · simp [kiniX8, kiniX10, kiniX3, kiniX5, uR, uN, uI, zpR, znG, znI, zIn, zup, zu1, Nat.add_assoc]
  · simp [kiniX8, kiniX10, kiniX3, kiniX5, uR, uN, uI, zpR, znG, znI, zIn, zup, zu1, Nat.add_assoc]
  · rcases h with rfl | rfl | rfl <;> simp [kiniX8, kiniX10, kiniX3, kiniX5, uR, uN, uI, zpR, znG, znI, zIn, zup, zu1, Nat.add_assoc]
set_option maxRecDepth 20000 in
theorem kiniX8_f {S : zSt} {a k : Nat} (h1 : S.1.1 = a + 1) : ((kiniX8 S a).2 a k = if k = 2 then 0 else S.2 a k) ∧ ∀ j, 1 ≤ j → j < 9 → (kiniX8 S a).2 (a + j) k = 0 := by
  obtain ⟨⟨n, tg, ln, rf⟩, f⟩ := S
  have h1 : n = a + 1 := h1
  subst h1
  refine ⟨?_, fun j j1 j2 => ?_⟩
  · simp [kiniX8, kiniX10, kiniX3, kiniX5, uR, uN, uI, zpR, znG, znI, zIn, zup, zu1, Nat.add_assoc]
  · have hj : j = 1 ∨ j = 2 ∨ j = 3 ∨ j = 4 ∨ j = 5 ∨ j = 6 ∨ j = 7 ∨ j = 8 := by omega
    rcases hj with rfl | rfl | rfl | rfl | rfl | rfl | rfl | rfl <;> simp [kiniX8, kiniX10, kiniX3, kiniX5, uR, uN, uI, zpR, znG, znI, zIn, zup, zu1, Nat.add_assoc]
theorem gv_self {c : Nat} {G : zG} {R : zRf} (h : ∀ j, j < 27 → G.2.2.2 (c + bP j) = R j) : gv c G R = G := by
  refine Prod.ext rfl (Prod.ext rfl (Prod.ext rfl ?_))
  funext b
  show (if c ≤ b ∧ b < c + 27 then R (bQ (b - c)) else G.2.2.2 b) = G.2.2.2 b
  split
  · rename_i q
    rw [← h (bQ (b - c)) (bQ_lt (by omega)), bPQ (by omega), show c + (b - c) = b by omega]
  · rfl
theorem cv_self {c : Nat} {F C : zI} (h : ∀ j, j < 27 → F (c + bP j) = C j) : cv c F C = F := by
  funext b
  show (if c ≤ b ∧ b < c + 27 then C (bQ (b - c)) else F b) = F b
  split
  · rename_i q
    rw [← h (bQ (b - c)) (bQ_lt (by omega)), bPQ (by omega), show c + (b - c) = b by omega]
  · rfl
theorem RA.now {b0 : Nat} {g : zG} {R : zRf} {c : Nat} (hW : CW b0 g c) (hF : CF c R) : RA b0 (gv c g R) (c + 13) := by
  refine ⟨⟨(hW.i 17 rfl).gv, (hW.i 18 rfl).gv, (hW.i 19 rfl).gv, (hW.i 20 rfl).gv, (hW.i 21 rfl).gv, (hW.i 22 rfl).gv, (hW.i 23 rfl).gv, (hW.i 24 rfl).gv, (hW.i 25 rfl).gv⟩, ⟨hW.l 18 rfl (by decide), hW.l 20 rfl (by decide), hW.l 22 rfl (by decide), hW.l 23 rfl (by decide), hW.l 24 rfl (by decide), hW.l 25 rfl (by decide)⟩, ?_, ?_, ?_, ?_, ?_, ?_, ?_, ?_⟩
  · rw [gv_ai (by decide)]; show R 17 1 = some (c + 14); exact hF _ (List.mem_of_getElem? (i := 18) rfl)
  · rw [gv_ai (by decide)]; show R 17 8 = some (c + 15); exact hF _ (List.mem_of_getElem? (i := 19) rfl)
  · rw [gv_ai (by decide)]; show R 17 9 = some (c + 17); exact hF _ (List.mem_of_getElem? (i := 20) rfl)
  · rw [gv_ai (by decide)]; show R 17 10 = some (c + 20); exact hF _ (List.mem_of_getElem? (i := 21) rfl)
  · rw [gv_ai (by decide)]; show R 17 12 = some (c + 21); exact hF _ (List.mem_of_getElem? (i := 22) rfl)
  · rw [show c + 13 + 2 = c + 15 from rfl, gv_ai (by decide)]; show R 19 0 = some (c + 16); exact hF _ (List.mem_of_getElem? (i := 24) rfl)
  · rw [show c + 13 + 4 = c + 17 from rfl, gv_ai (by decide)]; show R 21 0 = some (c + 18); exact hF _ (List.mem_of_getElem? (i := 25) rfl)
  · rw [show c + 13 + 4 = c + 17 from rfl, gv_ai (by decide)]; show R 21 4 = some (c + 19); exact hF _ (List.mem_of_getElem? (i := 26) rfl)
theorem RA.img {b0 : Nat} {g : zG} {R : zRf} {c a : Nat} (h : RA b0 g a) (ho : c + 27 ≤ a) : RA b0 (gv c g R) a :=
  RA.g (g := g) h rfl rfl rfl (fun k _ _ _ => congrFun (gv_out (by omega)) k) (gv_out (by omega)) (gv_out (by omega))
theorem kled_o {S : zSt} {a b x : Nat} (h : x ≠ a) (h0 : x ≠ pA S.1 a 0) (h4 : x ≠ pA S.1 a 4) : (kled S a b).2 x = S.2 x := by
  show (zup (zup (zup (zup (zup (zu1 (zu1 S.2 (pA S.1 a 0) _) (pA S.1 a 4) _) a 1 _) a 2 _) a 3 _) a 5 _) a 6 _) x = _
  rw [zup_r h, zup_r h, zup_r h, zup_r h, zup_r h, zu1_ne _ _ _ h4, zu1_ne _ _ _ h0]
/-- what is not of the copy stays -/
theorem cpyF_o {G : zG} {f : zI} {a b x : Nat} (hp : pA G (a + 4) 0 = a + 5 ∧ pA G (a + 4) 4 = a + 6) (h : x < a ∨ a + 9 ≤ x) : cpyF G f a b x = f x := by
  unfold cpyF
  rw [zu1_ne _ _ _ (by omega)]
  unfold cpyF8
  rw [zup_r (by omega)]
  unfold cpyF7
  rw [zu1_ne _ _ _ (by omega)]
  unfold cpyF6
  rw [kled_o (by omega) (by show x ≠ pA G (a + 4) 0; omega) (by show x ≠ pA G (a + 4) 4; omega)]
  exact cpyF5_o (by omega) (by omega)
theorem RA.cpy {b0 : Nat} {g : zG} {a b n : Nat} (h : RA b0 g a) (hab : a + 9 ≤ b ∨ b + 9 ≤ a) : RA b0 (cpyG g a b n) a :=
  h.g rfl rfl rfl (fun k k0 k4 k5 => (cpyG_a hab).trans (if_neg (by omega))) (cpyG_o (by omega) (by omega) (by omega)) (cpyG_o (by omega) (by omega) (by omega))
theorem CF.of {c : Nat} {R R' : zRf} (h : CF c R) (k : ∀ q ∈ bF, R' q.1 q.2.1 = R q.1 q.2.1) : CF c R' := fun q hq => (k q hq).trans (h q hq)
/-- an image is made of what is now -/
def kpG (c : Nat) (g : zG) (R : zRf) (a n : Nat) : zG := cpyG (gv c g R) a (c + 13) n
def kpF (c : Nat) (g : zG) (R : zRf) (f C : zI) (a n : Nat) : zI := cpyF (kpG c g R a n) (cv c f C) a (c + 13)
theorem B_X8_copyTo {l : Launch} {d : Nat} {D : zD} {b0 : Nat} {g : zG} {f C : zI} {R : zRf} {c : Nat} (hW : CW b0 g c) (hF : CF c R) (hw : zOK b0 zNo (gv c g R)) (a n : Nat) (ha : RA b0 g a) (ho : c + 27 ≤ a) (hn : C 19 1 = nI n) (hn1 : n ≤ 100) (h1 : iv 1001 (C 21 1)) (h5 : iv 1001 (C 21 5)) (hd : 2 ≤ d) : zM l d D b0 mX8_copyFrom [.ref a, .ref (c + 13)] (gv c g R) (cv c f C) (zCy b0 zNo c g none (kpG c g R a n) R (kpF c g R f C a n) C 0 0) := by
  have hRa : RA b0 (gv c g R) a := ha.img ho
  refine (K_X8_copyFrom (g := gv c g R) (f := cv c f C) hw a (c + 13) n hRa (RA.now hW hF) (by omega) (by rw [show c + 13 + 2 = c + 15 from rfl, cv_ai (by decide)]; exact hn) hn1 (by rw [show c + 13 + 4 = c + 17 from rfl, cv_ai (by decide)]; exact h1) (by rw [show c + 13 + 4 = c + 17 from rfl, cv_ai (by decide)]; exact h5) hd).mono (fun r g' f' mc ms h => ?_)
  obtain ⟨rfl, rfl, rfl, k1, k2, k3, k4⟩ := h
  have hp := (hRa.cpy (n := n) (b := c + 13) (by omega)).pk
  have eg : gv c (kpG c g R a n) R = kpG c g R a n := gv_self (fun j hj => (cpyG_o (by have := bP_lt hj; omega) (by have := bP_lt hj; omega) (by have := bP_lt hj; omega)).trans (gv_at hj))
  have ef : cv c (kpF c g R f C a n) C = kpF c g R f C a n := cv_self (fun j hj => (cpyF_o hp (by have := bP_lt hj; omega)).trans (cv_at hj))
  refine ⟨rfl, eg.symm, ef.symm, k1, k2, by rw [eg]; exact k3, k4, ?_⟩
  exact ⟨hW.1, hW.2.1, hW.2.2⟩
/-- what is now is made of an image -/
def bkG (c : Nat) (g : zG) (R : zRf) (a n : Nat) : zG := cpyG (gv c g R) (c + 13) a n
def bkF (c : Nat) (g : zG) (R : zRf) (f C : zI) (a n : Nat) : zI := cpyF (bkG c g R a n) (cv c f C) (c + 13) a
def bkR (c : Nat) (g : zG) (R : zRf) (a n : Nat) : zRf := fun j => (bkG c g R a n).2.2.2 (c + bP j)
def bkC (c : Nat) (g : zG) (R : zRf) (f C : zI) (a n : Nat) : zI := fun j => bkF c g R f C a n (c + bP j)
theorem bP_3 {j : Nat} (hj : j < 27) (h : j ≠ 17) (h1 : j ≠ 18) (h3 : j ≠ 20) : bP j ≠ 13 ∧ bP j ≠ 14 ∧ bP j ≠ 16 := by unfold bP; split <;> (try split) <;> (try split) <;> omega
theorem bkR_o {c : Nat} {g : zG} {R : zRf} {a n j : Nat} (hj : j < 27) (h : j ≠ 17) (h1 : j ≠ 18) (h3 : j ≠ 20) : bkR c g R a n j = R j := by
  show (cpyG (gv c g R) (c + 13) a n).2.2.2 (c + bP j) = _
  have hb := bP_3 hj h h1 h3
  rw [cpyG_o (by omega) (by omega) (by omega), gv_at hj]
theorem bkR_17 {c : Nat} {g : zG} {R : zRf} {a n k : Nat} (ho : c + 27 ≤ a) : bkR c g R a n 17 k = if k = 0 ∨ k = 4 ∨ k = 5 then g.2.2.2 a k else R 17 k := by
  show (cpyG (gv c g R) (c + 13) a n).2.2.2 (c + 13) k = _
  rw [cpyG_a (by omega), gv_ai (by decide), gv_out (by omega)]; rfl
theorem CF.bk {c : Nat} {g : zG} {R : zRf} {a n : Nat} (h : CF c R) (ho : c + 27 ≤ a) : CF c (bkR c g R a n) := by
  refine h.of (fun q hq => ?_)
  have hk : (q.1 = 17 ∧ ¬ (q.2.1 = 0 ∨ q.2.1 = 4 ∨ q.2.1 = 5)) ∨ (q.1 < 27 ∧ q.1 ≠ 17 ∧ q.1 ≠ 18 ∧ q.1 ≠ 20) := (show ∀ q ∈ bF, (q.1 = 17 ∧ ¬ (q.2.1 = 0 ∨ q.2.1 = 4 ∨ q.2.1 = 5)) ∨ (q.1 < 27 ∧ q.1 ≠ 17 ∧ q.1 ≠ 18 ∧ q.1 ≠ 20) by decide) q hq
  rcases hk with ⟨h1, h2⟩ | ⟨h1, h2, h3, h4⟩
  · rw [h1, bkR_17 ho, if_neg h2]
  · rw [bkR_o h1 h2 h3 h4]
theorem B_X8_copyBack {l : Launch} {d : Nat} {D : zD} {b0 : Nat} {g : zG} {f C : zI} {R : zRf} {c : Nat} (hW : CW b0 g c) (hF : CF c R) (hw : zOK b0 zNo (gv c g R)) (a n : Nat) (ha : RA b0 g a) (ho : c + 27 ≤ a) (hn : f (a + 2) 1 = nI n) (hn1 : n ≤ 100) (h1 : iv 1001 (f (a + 4) 1)) (h5 : iv 1001 (f (a + 4) 5)) (hd : 2 ≤ d) : zM l d D b0 mX8_copyFrom [.ref (c + 13), .ref a] (gv c g R) (cv c f C) (zCy b0 zNo c g none (bkG c g R a n) (bkR c g R a n) (bkF c g R f C a n) (bkC c g R f C a n) 0 0) := by
  have hRa : RA b0 (gv c g R) a := ha.img ho
  refine (K_X8_copyFrom (g := gv c g R) (f := cv c f C) hw (c + 13) a n (RA.now hW hF) hRa (by omega) (by rw [cv_out (by omega)]; exact hn) hn1 (by rw [cv_out (by omega)]; exact h1) (by rw [cv_out (by omega)]; exact h5) hd).mono (fun r g' f' mc ms h => ?_)
  obtain ⟨rfl, rfl, rfl, k1, k2, k3, k4⟩ := h
  have eg : gv c (bkG c g R a n) (bkR c g R a n) = bkG c g R a n := gv_self (fun j hj => rfl)
  have ef : cv c (bkF c g R f C a n) (bkC c g R f C a n) = bkF c g R f C a n := cv_self (fun j hj => rfl)
  refine ⟨rfl, eg.symm, ef.symm, k1, k2, by rw [eg]; exact k3, k4, ?_⟩
  exact ⟨hW.1, hW.2.1, hW.2.2⟩
theorem zOK.whole8 {b0 : Nat} {G : zG} {a : Nat} {X : Nat → Prop} (h : zOK b0 X G) (hX : ∀ y, X y → y = a ∨ y = a + 2 ∨ y = a + 4 ∨ y = a + 9) (ha : RA b0 G a) (hs : G.2.2.2 a 13 = some (a + 9) ∧ G.2.1 (a + 9) = 5 ∧ G.2.2.2 (a + 9) 0 = some (a + 10) ∧ G.2.2.2 (a + 9) 1 = some (a + 11) ∧ G.2.2.2 (a + 9) 3 = some (a + 12) ∧ G.2.2.1 (a + 10) = 1000 ∧ G.2.2.1 (a + 11) = 1000 ∧ G.2.2.1 (a + 12) = 1000) : zOK b0 zNo G := by
  obtain ⟨⟨a1, a2, a3, a4, a5, a6, a7, a8, a9⟩, ⟨l1, l2, l3, l4, l5, l6⟩, r1, r2, r3, r4, r5, r6, r7, r8⟩ := ha
  refine h.whole (fun y hy _ _ _ q hq hc => ?_)
  obtain ⟨s0, s1, s2, s3, s4, s5, s6, s7⟩ := hs
  rcases hX y hy with rfl | rfl | rfl | rfl
  · rw [a1.2.2] at hc
    have hk := (show ∀ q ∈ zSh, 8 = q.1 → q = (8, 1, some 4) ∨ q = (8, 8, none) ∨ q = (8, 9, none) ∨ q = (8, 10, some 60) ∨ q = (8, 12, some 6) ∨ q = (8, 13, none) by decide +kernel) q hq hc
    rcases hk with rfl | rfl | rfl | rfl | rfl | rfl
    · exact ⟨_, r1, fun n hn => by cases hn; exact l1⟩
    · exact ⟨_, r2, fun n hn => by cases hn⟩
    · exact ⟨_, r3, fun n hn => by cases hn⟩
    · exact ⟨_, r4, fun n hn => by cases hn; exact l5⟩
    · exact ⟨_, r5, fun n hn => by cases hn; exact l6⟩
    · exact ⟨_, s0, fun n hn => by cases hn⟩
  · rw [a3.2.2] at hc
    have hk := (show ∀ q ∈ zSh, 10 = q.1 → q = (10, 0, some 100) by decide +kernel) q hq hc
    subst hk
    exact ⟨_, r6, fun n hn => by cases hn; exact l2⟩
  · rw [a5.2.2] at hc
    have hk := (show ∀ q ∈ zSh, 3 = q.1 → q = (3, 0, some 1000) ∨ q = (3, 4, some 1000) by decide +kernel) q hq hc
    rcases hk with rfl | rfl
    · exact ⟨_, r7, fun n hn => by cases hn; exact l3⟩
    · exact ⟨_, r8, fun n hn => by cases hn; exact l4⟩
  · rw [s1] at hc
    have hk := (show ∀ q ∈ zSh, 5 = q.1 → q = (5, 0, some 1000) ∨ q = (5, 1, some 1000) ∨ q = (5, 3, some 1000) by decide +kernel) q hq hc
    rcases hk with rfl | rfl | rfl
    · exact ⟨_, s2, fun n hn => by cases hn; exact s5⟩
    · exact ⟨_, s3, fun n hn => by cases hn; exact s6⟩
    · exact ⟨_, s4, fun n hn => by cases hn; exact s7⟩
/-- a new run, its object made already -/
def bimgS (c : Nat) (g : zG) (f : zI) : zSt := kiniX8 (znG g 8 0, znI g f) g.1
theorem B_X8_init {l : Launch} {d : Nat} {D : zD} {b0 : Nat} {g : zG} {f C : zI} {R : zRf} {c : Nat} {X : Nat → Prop} (hW : CW b0 (znG g 8 0) c) (hc : c + 27 ≤ g.1) (hw : zOK b0 X (gv c (znG g 8 0) R)) (hX : X g.1) (hX2 : ∀ y, X y → y = g.1) (hd : 2 ≤ d) : zM l d D b0 mX8_init [.ref g.1] (gv c (znG g 8 0) R) (cv c (znI g f) C) (zCy b0 zNo c (znG g 8 0) none (bimgS c g f).1 R (bimgS c g f).2 C 12 5185) := by
  have hi : zIn b0 (znG g 8 0) g.1 8 := zIn.self (Nat.le_trans hW.1 (by omega))
  refine (K_X8_init (g := gv c (znG g 8 0) R) (f := cv c (znI g f) C) hw g.1 hi.gv hX hd).mono (fun r g' f' mc ms h => ?_)
  obtain ⟨rfl, rfl, rfl, k1, k2, k3, k4⟩ := h
  have e : kiniX8 (gv c (znG g 8 0) R, cv c (znI g f) C) g.1 = (gv c (bimgS c g f).1 R, cv c (bimgS c g f).2 C) := gvS_8 (S := (znG g 8 0, znI g f)) (by show c + 27 ≤ g.1 + 1; omega) (by omega)
  rw [e] at k3 k4 ⊢
  have hR : RA b0 (bimgS c g f).1 g.1 := kiniX8_RA rfl hi
  refine ⟨rfl, rfl, rfl, k1, k2, k3.whole8 (a := g.1) (fun y hy => ?_) (hR.img hc) ?_, kiniX8_z (znG g 8 0, znI g f) g.1, hW.le (kiniX8_z (znG g 8 0, znI g f) g.1)⟩
  · rcases hy with ((hy | hy) | hy) | hy
    · exact Or.inl (hX2 y hy)
    · exact Or.inr (Or.inl hy)
    · exact Or.inr (Or.inr (Or.inl hy))
    · exact Or.inr (Or.inr (Or.inr hy))
  · rw [gv_out (by omega), gv_out (by omega)]; exact kiniX8_13 rfl
/-- the image that is written to -/
def bkp1 (c : Nat) (g : zG) (R : zRf) (f : zI) (x : Int32) : zG × zRf × zI × Nat := match R 26 (tn x) with
  | some a => (g, R, f, a)
  | none => ((bimgS c g f).1, zup R 26 (tn x) (some g.1), (bimgS c g f).2, g.1)
theorem bkp1_s {c : Nat} {g : zG} {R : zRf} {f : zI} {x : Int32} {a : Nat} (h : R 26 (tn x) = some a) : bkp1 c g R f x = (g, R, f, a) := by unfold bkp1; rw [h]
theorem bkp1_n {c : Nat} {g : zG} {R : zRf} {f : zI} {x : Int32} (h : R 26 (tn x) = none) : bkp1 c g R f x = ((bimgS c g f).1, zup R 26 (tn x) (some g.1), (bimgS c g f).2, g.1) := by unfold bkp1; rw [h]
def bkeep (c : Nat) (g : zG) (R : zRf) (f C : zI) (x : Int32) (n : Nat) : bSt × Int32 :=
  if ¬ x < 0 ∧ x < 2 then ((kpG c (bkp1 c g R f x).1 (bkp1 c g R f x).2.1 (bkp1 c g R f x).2.2.2 n, (bkp1 c g R f x).2.1, kpF c (bkp1 c g R f x).1 (bkp1 c g R f x).2.1 (bkp1 c g R f x).2.2.1 C (bkp1 c g R f x).2.2.2 n, C), C 17 2) else ((g, R, f, C), -1)
theorem bkeep_b {c : Nat} {g : zG} {R : zRf} {f C : zI} {x : Int32} {n : Nat} (h : ¬ (¬ x < 0 ∧ x < 2)) : bkeep c g R f C x n = ((g, R, f, C), -1) := if_neg h
theorem bkeep_t {c : Nat} {g : zG} {R : zRf} {f C : zI} {x : Int32} {n : Nat} {q : zG × zRf × zI × Nat} (hq : bkp1 c g R f x = q) (h : ¬ x < 0 ∧ x < 2) : bkeep c g R f C x n = ((kpG c q.1 q.2.1 q.2.2.2 n, q.2.1, kpF c q.1 q.2.1 q.2.2.1 C q.2.2.2 n, C), C 17 2) := by
  subst hq
  exact if_pos h
theorem iv2 {x : Int32} (h : ¬ x < 0 ∧ x < 2) : iv 2 x := by
  obtain ⟨q, h1, h2⟩ := nI_of h.1
  have h3 := h.2
  rw [h2] at h3 ⊢
  exact iv_nI (by have := (nI_ltI (b := 2) h1 (by decide)).mp h3; omega) (by decide)
def bback (c : Nat) (g : zG) (R : zRf) (f C : zI) (x : Int32) (n : Nat) : bSt × Int32 :=
  if ¬ x < 0 ∧ x < 2 then (match R 26 (tn x) with
    | none => ((g, R, f, C), -2)
    | some a => ((bkG c g R a n, bkR c g R a n, bkF c g R f C a n, bkC c g R f C a n), bkC c g R f C a n 17 2)) else ((g, R, f, C), -1)
theorem bback_b {c : Nat} {g : zG} {R : zRf} {f C : zI} {x : Int32} {n : Nat} (h : ¬ (¬ x < 0 ∧ x < 2)) : bback c g R f C x n = ((g, R, f, C), -1) := if_neg h
theorem bback_n {c : Nat} {g : zG} {R : zRf} {f C : zI} {x : Int32} {n : Nat} (h : ¬ x < 0 ∧ x < 2) (h2 : R 26 (tn x) = none) : bback c g R f C x n = ((g, R, f, C), -2) := by unfold bback; rw [if_pos h, h2]
theorem bback_s {c : Nat} {g : zG} {R : zRf} {f C : zI} {x : Int32} {n a : Nat} (h : ¬ x < 0 ∧ x < 2) (h2 : R 26 (tn x) = some a) : bback c g R f C x n = ((bkG c g R a n, bkR c g R a n, bkF c g R f C a n, bkC c g R f C a n), bkC c g R f C a n 17 2) := by unfold bback; rw [if_pos h, h2]
set_option maxRecDepth 20000 in
set_option maxHeartbeats 400000 in
theorem B_X11_keep {l : Launch} {d : Nat} {D : zD} {b0 : Nat} {g : zG} {f C : zI} {R : zRf} {c : Nat} (hW : CW b0 g c) (hF : CF c R) (hw : zOK b0 zNo (gv c g R)) (x : Int32) (n : Nat) (hn : C 19 1 = nI n) (hn1 : n ≤ 100) (h1 : iv 1001 (C 21 1)) (h5 : iv 1001 (C 21 5)) (hR : ∀ a, R 26 (tn x) = some a → RA b0 g a ∧ c + 27 ≤ a) (hd : 3 ≤ d) : zM l d D b0 mX11_keep [.ref (c + 0), .int x] (gv c g R) (cv c f C) (zCy b0 zNo c g (some (.int (bkeep c g R f C x n).2)) (bkeep c g R f C x n).1.1 (bkeep c g R f C x n).1.2.1 (bkeep c g R f C x n).1.2.2.1 (bkeep c g R f C x n).1.2.2.2 13 5199) := by
  refine zM.start zmd_X11_keep (Nat.le_of_ble_eq_true rfl) ⟨rfl, rfl, trivial⟩ [some (.ref (c + 0)), some (.int x)] rfl ?_
  refine z_iload1 dX11_keep_0 ?_
  refine z_callSi zmd_X11_isImage zl_RX11_186 zst_X11_isImage (K_X11_isImage (d := d - 1) _) rfl rfl (by omega) rfl dX11_keep_1 ?_
  refine z_if_ne (tgt := 9) dX11_keep_4 (by decide) (fun c4 => ?_) (fun c4 => ?_)
  · show zS _ _ _ _ _ _ _ 9 _ _ _ _ _
    have hpp := zB_t c4
    have hpi := iv2 hpp
    have hp1 := hpi.1
    refine z_aload0 dX11_keep_9 ?_
    refine zc_getF (j := 0) hW fl_RX11_38 rfl (by decide) (hF _ (List.mem_of_getElem? (i := 4) rfl)) dX11_keep_10 ?_
    refine z_iload1 dX11_keep_13 ?_
    refine zc_ald (j := 26) (t' := 8) hw hW rfl (by decide) (by decide) (hpi.2 : _ = nI (tn x)) (by omega) (fun _ => rfl) (by decide) dX11_keep_14 (fun i2 => ?_)
    refine z_ifnonnull (tgt := 31) dX11_keep_15 (by decide) (fun a15 c15 => ?_) (fun c15 => ?_)
    · show zS _ _ _ _ _ _ _ 31 _ _ _ _ _
      rw [bkeep_t (bkp1_s c15) hpp]
      refine z_aload0 dX11_keep_31 ?_
      refine zc_getF (j := 0) hW fl_RX11_38 rfl (by decide) (hF _ (List.mem_of_getElem? (i := 4) rfl)) dX11_keep_32 ?_
      refine z_iload1 dX11_keep_35 ?_
      refine zc_alds (j := 26) (t' := 8) hw hW rfl (by decide) (by decide) (hpi.2 : _ = nI (tn x)) (by omega) (fun _ => rfl) (by decide) c15 dX11_keep_36 (fun i3 => ?_)
      refine z_aload0 dX11_keep_37 ?_
      refine zc_getF (j := 0) hW fl_RX11_34 rfl (by decide) (hF _ (List.mem_of_getElem? (i := 3) rfl)) dX11_keep_38 ?_
      refine z_callV zmd_X8_copyFrom rfl (by decide) zl_RX11_189 zin_X8_copyFrom zsel_X8_copyFrom (B_X8_copyTo (d := d - 1) hW hF hw _ n ((hR _ c15).1) ((hR _ c15).2) hn hn1 h1 h5 (by omega)) i3 rfl rfl (by omega) rfl dX11_keep_41 (fun r4 g4 f4 mc4 ms4 q4 => ?_)
      obtain ⟨rfl, rfl, rfl, hc4, hs4, w4, k4, b4⟩ := q4
      refine z_aload0 dX11_keep_44 ?_
      refine zc_getF (j := 0) b4 fl_RX11_34 rfl (by decide) (hF _ (List.mem_of_getElem? (i := 3) rfl)) dX11_keep_45 ?_
      refine zc_getI (j := 17) b4 fl_RX11_82 rfl dX11_keep_48 ?_
      refine z_iret dX11_keep_51 rfl ?_
      exact ⟨rfl, rfl, rfl, by omega, by omega, w4, k4, b4⟩
    · show zS _ _ _ _ _ _ _ 18 _ _ _ _ _
      rw [bkeep_t (bkp1_n c15) hpp]
      have hi8 : zIn b0 (znG g 8 0) g.1 8 := zIn.self (Nat.le_trans hW.1 (by have := hW.2.1; omega))
      refine z_aload0 dX11_keep_18 ?_
      refine zc_getF (j := 0) hW fl_RX11_38 rfl (by decide) (hF _ (List.mem_of_getElem? (i := 4) rfl)) dX11_keep_19 ?_
      refine z_iload1 dX11_keep_22 ?_
      refine zd_newX hw hW zcls_X8 zc_RX11_31 zi_RX8 zini_RX8 dX11_keep_23 (fun w5 k5 b5 i5 => ?_)
      refine z_dup dX11_keep_26 ?_
      refine z_callIN zmd_X8_init rfl rfl (host := "EffectMachine") (by decide) zin_X8_init (B_X8_init (d := d - 1) b5 hW.2.1 w5 (Or.inr rfl) (fun y hy => hy.resolve_left (fun q => q)) (by omega)) rfl rfl (by omega) rfl dX11_keep_27 (fun r6 g6 f6 mc6 ms6 q6 => ?_)
      obtain ⟨rfl, rfl, rfl, hc6, hs6, w6, k6, b6⟩ := q6
      refine zc_asts (j := 26) (t' := 8) w6 b6 rfl (by decide) (by decide) (hpi.2 : _ = nI (tn x)) (by omega) (fun _ => rfl) (i5.le k6) dX11_keep_30 (fun w7 => ?_)
      refine z_aload0 dX11_keep_31 ?_
      refine zc_getF (j := 0) b6 fl_RX11_38 rfl (by decide) ((hF.upj (by decide)) _ (List.mem_of_getElem? (i := 4) rfl)) dX11_keep_32 ?_
      refine z_iload1 dX11_keep_35 ?_
      refine zc_alds (j := 26) (t' := 8) w7 b6 rfl (by decide) (by decide) (hpi.2 : _ = nI (tn x)) (by omega) (fun _ => rfl) (by decide) (zup_at _ _ _ _) dX11_keep_36 (fun i8 => ?_)
      show zS _ _ _ _ _ _ _ 37 _ _ _ _ _
      refine z_aload0 dX11_keep_37 ?_
      refine zc_getF (j := 0) b6 fl_RX11_34 rfl (by decide) ((hF.upj (by decide)) _ (List.mem_of_getElem? (i := 3) rfl)) dX11_keep_38 ?_
      refine z_callV zmd_X8_copyFrom rfl (by decide) zl_RX11_189 zin_X8_copyFrom zsel_X8_copyFrom (B_X8_copyTo (d := d - 1) b6 (hF.upj (by decide)) w7 _ n (kiniX8_RA rfl hi8 : RA b0 (bimgS c g f).1 g.1) hW.2.1 hn hn1 h1 h5 (by omega)) i8 rfl rfl (by omega) rfl dX11_keep_41 (fun r9 g9 f9 mc9 ms9 q9 => ?_)
      obtain ⟨rfl, rfl, rfl, hc9, hs9, w9, k9, b9⟩ := q9
      refine z_aload0 dX11_keep_44 ?_
      refine zc_getF (j := 0) b9 fl_RX11_34 rfl (by decide) ((hF.upj (by decide)) _ (List.mem_of_getElem? (i := 3) rfl)) dX11_keep_45 ?_
      refine zc_getI (j := 17) b9 fl_RX11_82 rfl dX11_keep_48 ?_
      refine z_iret dX11_keep_51 rfl ?_
      exact ⟨rfl, rfl, rfl, by omega, by omega, w9, ((k5.tr k6).tr k9), b9⟩
  · show zS _ _ _ _ _ _ _ 7 _ _ _ _ _
    rw [bkeep_b (zB_f c4)]
    refine z_iconst (v := (-1)) dX11_keep_7 (by decide) ?_
    refine z_iret dX11_keep_8 rfl ?_
    exact ⟨rfl, rfl, rfl, by omega, by omega, hw, zLe.rf, hW⟩
set_option maxRecDepth 20000 in
set_option maxHeartbeats 400000 in
theorem B_X11_back {l : Launch} {d : Nat} {D : zD} {b0 : Nat} {g : zG} {f C : zI} {R : zRf} {c : Nat} (hW : CW b0 g c) (hF : CF c R) (hw : zOK b0 zNo (gv c g R)) (x : Int32) (n : Nat) (hn1 : n ≤ 100) (hR : ∀ a, R 26 (tn x) = some a → RA b0 g a ∧ c + 27 ≤ a) (hI : ∀ a, R 26 (tn x) = some a → f (a + 2) 1 = nI n ∧ iv 1001 (f (a + 4) 1) ∧ iv 1001 (f (a + 4) 5)) (hd : 3 ≤ d) : zM l d D b0 mX11_back [.ref (c + 0), .int x] (gv c g R) (cv c f C) (zCy b0 zNo c g (some (.int (bback c g R f C x n).2)) (bback c g R f C x n).1.1 (bback c g R f C x n).1.2.1 (bback c g R f C x n).1.2.2.1 (bback c g R f C x n).1.2.2.2 0 0) := by
  refine zM.start zmd_X11_back (Nat.le_of_ble_eq_true rfl) ⟨rfl, rfl, trivial⟩ [some (.ref (c + 0)), some (.int x)] rfl ?_
  refine z_iload1 dX11_back_0 ?_
  refine z_callSi zmd_X11_isImage zl_RX11_186 zst_X11_isImage (K_X11_isImage (d := d - 1) _) rfl rfl (by omega) rfl dX11_back_1 ?_
  refine z_if_ne (tgt := 9) dX11_back_4 (by decide) (fun c4 => ?_) (fun c4 => ?_)
  · show zS _ _ _ _ _ _ _ 9 _ _ _ _ _
    have hpp := zB_t c4
    have hpi := iv2 hpp
    have hp1 := hpi.1
    refine z_aload0 dX11_back_9 ?_
    refine zc_getF (j := 0) hW fl_RX11_38 rfl (by decide) (hF _ (List.mem_of_getElem? (i := 4) rfl)) dX11_back_10 ?_
    refine z_iload1 dX11_back_13 ?_
    refine zc_ald (j := 26) (t' := 8) hw hW rfl (by decide) (by decide) (hpi.2 : _ = nI (tn x)) (by omega) (fun _ => rfl) (by decide) dX11_back_14 (fun i2 => ?_)
    refine z_ifnonnull (tgt := 21) dX11_back_15 (by decide) (fun a15 c15 => ?_) (fun c15 => ?_)
    · show zS _ _ _ _ _ _ _ 21 _ _ _ _ _
      rw [bback_s hpp c15]
      have hFb : ∀ a, R 26 (tn x) = some a → CF c (bkR c g R a n) := fun a ha => hF.bk (hR a ha).2
      refine z_aload0 dX11_back_21 ?_
      refine zc_getF (j := 0) hW fl_RX11_34 rfl (by decide) (hF _ (List.mem_of_getElem? (i := 3) rfl)) dX11_back_22 ?_
      refine z_aload0 dX11_back_25 ?_
      refine zc_getF (j := 0) hW fl_RX11_38 rfl (by decide) (hF _ (List.mem_of_getElem? (i := 4) rfl)) dX11_back_26 ?_
      refine z_iload1 dX11_back_29 ?_
      refine zc_alds (j := 26) (t' := 8) hw hW rfl (by decide) (by decide) (hpi.2 : _ = nI (tn x)) (by omega) (fun _ => rfl) (by decide) c15 dX11_back_30 (fun i3 => ?_)
      refine z_callV zmd_X8_copyFrom rfl (by decide) zl_RX11_189 zin_X8_copyFrom zsel_X8_copyFrom (B_X8_copyBack (d := d - 1) hW hF hw _ n (hR _ c15).1 (hR _ c15).2 (hI _ c15).1 hn1 (hI _ c15).2.1 (hI _ c15).2.2 (by omega)) (hW.i 17 rfl) rfl rfl (by omega) rfl dX11_back_31 (fun r4 g4 f4 mc4 ms4 q4 => ?_)
      obtain ⟨rfl, rfl, rfl, hc4, hs4, w4, k4, b4⟩ := q4
      refine z_aload0 dX11_back_34 ?_
      refine zc_getF (j := 0) b4 fl_RX11_34 rfl (by decide) ((hFb _ c15) _ (List.mem_of_getElem? (i := 3) rfl)) dX11_back_35 ?_
      refine zc_getI (j := 17) b4 fl_RX11_82 rfl dX11_back_38 ?_
      refine z_iret dX11_back_41 rfl ?_
      exact ⟨rfl, rfl, rfl, by omega, by omega, w4, k4, b4⟩
    · show zS _ _ _ _ _ _ _ 18 _ _ _ _ _
      rw [bback_n hpp c15]
      refine z_bipush (v := (-2)) dX11_back_18 (by decide) ?_
      refine z_iret dX11_back_20 rfl ?_
      exact ⟨rfl, rfl, rfl, by omega, by omega, hw, zLe.rf, hW⟩
  · show zS _ _ _ _ _ _ _ 7 _ _ _ _ _
    rw [bback_b (zB_f c4)]
    refine z_iconst (v := (-1)) dX11_back_7 (by decide) ?_
    refine z_iret dX11_back_8 rfl ?_
    exact ⟨rfl, rfl, rfl, by omega, by omega, hw, zLe.rf, hW⟩
