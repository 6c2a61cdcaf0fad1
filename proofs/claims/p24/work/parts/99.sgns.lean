/-! A text is read, in both: signs. -/
theorem baccE_s {g : zG} {R : zRf} {f C : zI} {x : Int32} {n m : Nat} (h : ¬ dgt x) (h1 : ¬ ltr x) (h64 : ¬ x = 64) (hb : bsg x) : baccE g R f C x n m = (bbex g R f C x (bnx x) n m, 1) := (if_neg h).trans ((if_neg h1).trans ((if_neg h64).trans (if_pos hb)))
theorem baccE_z {g : zG} {R : zRf} {f C : zI} {x : Int32} {n m : Nat} (h : ¬ dgt x) (h1 : ¬ ltr x) (h64 : ¬ x = 64) (hb : ¬ bsg x) : baccE g R f C x n m = ((g, R, f, C), 0) := (if_neg h).trans ((if_neg h1).trans ((if_neg h64).trans (if_neg hb)))
theorem pat.fails {M : zI} (h : pat M) : pat (pfails M) := by
  unfold pat pfails
  rw [zup_ne _ _ _ _ (by omega), zup_ne _ _ _ _ (by omega)]
  exact h
theorem kind_nd : ∀ x, x < 127 → ¬ pkindOf (nI x) = -9 → ¬ (48 ≤ x ∧ x ≤ 57) := by decide +kernel
def nxk (κ : Nat) : Int32 := if κ = 8 then 1 else if κ = 10 then 2 else if κ = 11 then 2 else if κ = 13 then 3 else 0
theorem nxk_5 : ∀ κ, κ < 16 → ¬ nxk κ = 5 := by decide +kernel
theorem nxk_0 : ∀ κ, κ < 16 → ¬ (κ = 8 ∨ κ = 10 ∨ κ = 11 ∨ κ = 13) → nxk κ = 0 := by decide +kernel
theorem preadArg_no : ∀ κ, κ < 16 → ¬ (κ = 8 ∨ κ = 10 ∨ κ = 11 ∨ κ = 13) → ∀ N : zI, preadArg N (nI κ) = (0, N) := by
  intro κ h1 h2 N
  have e : ∀ c : Nat, c < 16 → (nI κ = nI c ↔ κ = c) := fun c hc => nI_eq (by omega) (by omega)
  unfold preadArg
  rw [if_neg (fun z : nI κ = 8 => h2 (Or.inl ((e 8 (by decide)).mp z)))]
  by_cases q9 : nI κ = 9
  · rw [if_pos q9]
  rw [if_neg q9, if_neg (fun z : nI κ = 10 => h2 (Or.inr (Or.inl ((e 10 (by decide)).mp z)))), if_neg (fun z : nI κ = 11 => h2 (Or.inr (Or.inr (Or.inl ((e 11 (by decide)).mp z)))))]
  by_cases q12 : nI κ = 12
  · rw [if_pos q12]
  rw [if_neg q12, if_neg (fun z : nI κ = 13 => h2 (Or.inr (Or.inr (Or.inr ((e 13 (by decide)).mp z)))))]
section SGNS
variable {b0 n0 fs : Nat} {S0 : bSt} {M0 : zI} {len : Nat} {tx : Nat → Nat} {g : zG} {f : zI} {R : zRf} {t t0 : zTs} {m k : Nat} {how : Int32}
/-- a fault of a round -/
theorem AW.fail {C M N : zI} {L : List Ent} {q : bSt × Int32} {kk j : Nat} (hP : PS b0 n0 fs S0 M0 len tx g f R C M t L m k none) (hB : (pparB M how).2 = pfails N) (h15 : N 0 15 = -9) (h14 : N 0 14 = nI kk) (hk : kk ≤ 120) (hM : MB fs M0 N) (hp : pat N) (hq : q.2 = nI kk) (hK : KB S0 q.1) :
    pparV how (j + 2) 1 M ∧ RES b0 n0 fs S0 M0 len t0 (mk how) q (ppar how (j + 2) 1 M) := by
  have e : pfails N 0 15 = nI kk := by
    unfold pfails
    rw [zup_at, if_pos h15, h14]
  obtain ⟨a, b⟩ := FLT (b0 := b0) (n0 := n0) (len := len) (t0 := t0) (how := how) (N := pfails N) hq hk hK e (by unfold pfails; exact hM.z (by omega)) hp.fails
  obtain ⟨c1, c2⟩ := AW.flt hP hB e hk (b j 1)
  exact ⟨c1, by rw [c2]; exact a⟩
/-- the class reads a sign -/
theorem SGN {κ x : Nat} {C' M' : zI} {L : List Ent} {k' : Nat} (hP : PS b0 n0 fs S0 M0 len tx g f R C' M' t L m k' none) (hL : NX L ∨ L = []) (h22 : C' 2 2 = 0) (hx1 : C' 1 k' = nI x) (hx : x < 127) (hb0 : b0 ≤ g.1) (hκ : κ < 16 ∧ 2 ≤ κ) (hnd : ¬ (48 ≤ x ∧ x ≤ 57)) (hnl : ¬ (97 ≤ x ∧ x ≤ 122)) (h64 : κ = 14 ↔ nI x = 64) (hb : ¬ κ = 14 → bsg (nI x)) (hnx : bnx (nI x) = nxk κ) (hok : κ = 14 → ¬ R 8 L.length = none) :
    ∃ C1, bacc g R f C' (C' 1 k') L.length m = (((if κ = 14 then zpR (gA t (dxG (znG g 1 0) g.1 (nI x)) g.1 L) g.1 7 (R 8 L.length) else gA t (dxG (znG g 1 0) g.1 (nI x)) g.1 L), zup (zup (zup R 3 m (some g.1)) 4 (L.length + 1) (some g.1)) 8 (L.length + 1) (R 8 L.length), dxF (znG g 1 0) (znI g f) g.1 (nI x), C1), 1) ∧
      ((∀ r, r ≠ 2 → r ≠ 5 → r ≠ 7 → C1 r = C' r) ∧ C1 2 1 = nI (m + 1) ∧ C1 2 9 = nI (L.length + 1) ∧ (C1 5 (L.length + 1) = 0 ∧ ∀ j, j ≠ L.length + 1 → C1 5 j = C' 5 j) ∧ (C1 7 (L.length + 1) = C' 7 L.length ∧ ∀ j, j ≠ L.length + 1 → C1 7 j = C' 7 j)) ∧ C1 2 2 = nxk κ ∧ C1 2 3 = 0 := by
  have hl := hP.2.1.1.1
  have hndg : ¬ dgt (nI x) := fun z => hnd ((dgtI (by omega)).mp z)
  have hnlt : ¬ ltr (nI x) := fun z => hnl ((ltrI (by omega)).mp z)
  obtain ⟨Ca, eCa⟩ : ∃ Ca, Ca = zup C' 2 3 0 := ⟨_, rfl⟩
  have hCar : ∀ r, r ≠ 2 → Ca r = C' r := fun r hr => by rw [eCa, zup_r hr]
  have hCaj : ∀ j, j ≠ 3 → Ca 2 j = C' 2 j := fun j hj => by rw [eCa, zup_ne _ _ _ _ (Or.inr hj)]
  have hPa := hP.cc hCar (hCaj 1 (by decide)) (hCaj 9 (by decide))
  have hbd := (hPa.new (x := nI x) (D := fun _ => False) (r := False) (C' := Ca) (R' := R) (M' := M') hL (fun _ _ => rfl) (by omega) ⟨fun _ _ => ⟨rfl, rfl, rfl, rfl, rfl⟩, fun _ _ => ⟨rfl, rfl, rfl, rfl⟩⟩ ⟨fun _ _ _ _ _ => rfl, fun _ _ _ _ => rfl, rfl, hPa.2.2.2.2.1.2.2.2.2.2.2⟩).1
  have c21 : Ca 2 1 = nI m := hPa.2.1.2.1.1
  have c29 : Ca 2 9 = nI L.length := hPa.2.1.2.2.2.1
  have e1 : nI m + 1 = nI (m + 1) := ixA (a := m) (b := 1) rfl (ixC 1)
  have e2 : nI L.length + 1 = nI (L.length + 1) := ixA (a := L.length) (b := 1) rfl (ixC 1)
  have hbacc : bacc g R f C' (C' 1 k') L.length m = (bbex g R f Ca (nI x) (nxk κ) L.length m, 1) := by
    rw [bacc_0 h22, hx1, ← eCa]
    by_cases q : κ = 14
    · rw [baccE_a1 (h64.mp q) (hok q), q]; rfl
    · rw [baccE_s hndg hnlt (fun z => q (h64.mpr z)) (hb q), hnx]
  refine ⟨bbexC (zup Ca 2 1 (Ca 2 1 + 1)) (nxk κ) L.length, ?_, ⟨fun r a b c => ?_, ?_, ?_, ⟨?_, fun j hj => ?_⟩, ⟨?_, fun j hj => ?_⟩⟩, ?_, ?_⟩
  · rw [hbacc]
    unfold bbex
    rw [hbd]
    have eG : bbexG g R f Ca (nI x) L.length m = (if κ = 14 then zpR (gA t (dxG (znG g 1 0) g.1 (nI x)) g.1 L) g.1 7 (R 8 L.length) else gA t (dxG (znG g 1 0) g.1 (nI x)) g.1 L) := by
      by_cases q : κ = 14
      · rw [bbexG_t (h64.mp q), hbd, if_pos q]
        show zpR _ _ _ (zup R 3 m (some g.1) 8 L.length) = _
        rw [zup_r (by decide)]
      · rw [bbexG_f (fun z => q (h64.mpr z)), hbd, if_neg q]
    rw [eG]
    show ((_, bbexR (zup R 3 m (some g.1)) g.1 L.length, _, _), _) = _
    unfold bbexR
    try dsimp only
    rw [zup_r (show (8 : Nat) ≠ 4 by decide), zup_r (show (8 : Nat) ≠ 3 by decide)]
  all_goals unfold bbexC; try dsimp only
  · rw [zup_r a, zup_r c, zup_r b, zup_r a, zup_r a]; exact hCar r a
  · simp (disch := omega) only [zup_r, zup_at, zup_ne]; rw [c21]; exact e1
  · simp (disch := omega) only [zup_r, zup_at, zup_ne]; rw [c29]; exact e2
  · simp (disch := omega) only [zup_r, zup_at, zup_ne]
  · simp (disch := omega) only [zup_r, zup_at, zup_ne]; rw [hCar 5 (by decide)]
  · simp (disch := omega) only [zup_r, zup_at, zup_ne]; rw [hCar 7 (by decide)]
  · simp (disch := omega) only [zup_r, zup_at, zup_ne]; rw [hCar 7 (by decide)]
  · rw [zup_at]
  · simp (disch := omega) only [zup_r, zup_at, zup_ne]; rw [eCa, zup_at]
end SGNS
