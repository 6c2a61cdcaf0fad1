/-! A text is read, in both: the whole. -/
theorem READ {b0 n0 fs : Nat} {S0 : bSt} {M0 : zI} {len : Nat} {tx : Nat → Nat} {t0 : zTs} {how : Int32} (hn0 : b0 ≤ S0.1.1 ∧ n0 ≤ S0.1.1) (h8 : S0.2.1 8 0 = none) : ∀ r, AWp b0 n0 fs S0 M0 len tx t0 how r ∧ CPp b0 n0 fs S0 M0 len tx t0 how r := by
  intro r
  induction r with
  | zero => exact ⟨AW.step hn0 h8 (fun r' h => by omega), CP.step hn0 (fun r' h => by omega)⟩
  | succ r ih =>
    have ih' : ∀ r', r + 1 = r' + 1 → AWp b0 n0 fs S0 M0 len tx t0 how r' ∧ CPp b0 n0 fs S0 M0 len tx t0 how r' := fun r' h => by
      have : r' = r := by omega
      rw [this]; exact ih
    exact ⟨AW.step hn0 h8 ih', CP.step hn0 ih'⟩
theorem KB.rf {S : bSt} (h6 : ∀ k, iv 7 (S.2.2.2 6 k)) : KB S S := ⟨⟨zLe.rf, fun _ _ => ⟨rfl, rfl⟩⟩, fun _ _ _ _ _ => rfl, fun _ _ _ _ => rfl, rfl, fun x a b => by omega, fun x a b => by omega, h6⟩
/-- a text is read in both: where it is at fault, and what it leaves -/
theorem PARSE {b0 n0 : Nat} {g : zG} {R : zRf} {f C M : zI} {t : zTs} {len : Nat} {tx : Nat → Nat} {how z : Int32} (hT : TX len tx C M) (hn0 : b0 ≤ g.1 ∧ n0 ≤ g.1) (h8 : R 8 0 = none) (h6 : ∀ k, iv 7 (C 6 k)) (hN : M 0 1 = nI t.1) (ht : t.1 ≤ 64800) (hz : (if z = 0 then (0 : Int32) else 8388608) = if how = 1 then 8388608 else 0) :
    pparseV M how ∧ RES b0 n0 t.1 (g, R, f, brdC C z) (ppar0 M) len t (mk how) (bread g R f C len z) (pparM M how) := by
  have hl := hT.1
  have r0 : ∀ r, r ≠ 2 → r ≠ 7 → brdC C z r = C r := fun r a b => by
    unfold brdC
    rw [zup_r b, zup_r a, zup_r a, zup_r a, zup_r a]
  have c21 : brdC C z 2 1 = 0 := by
    unfold brdC
    rw [zup_r (by decide), zup_ne _ _ _ _ (by omega), zup_ne _ _ _ _ (by omega), zup_ne _ _ _ _ (by omega), zup_at]
  have c29 : brdC C z 2 9 = 0 := by
    unfold brdC
    rw [zup_r (by decide), zup_ne _ _ _ _ (by omega), zup_ne _ _ _ _ (by omega), zup_at]
  have c23 : brdC C z 2 3 = 0 := by
    unfold brdC
    rw [zup_r (by decide), zup_ne _ _ _ _ (by omega), zup_at]
  have c22 : brdC C z 2 2 = 0 := by
    unfold brdC
    rw [zup_r (by decide), zup_at]
  have c70 : brdC C z 7 0 = if how = 1 then 8388608 else 0 := by
    unfold brdC
    rw [zup_at]; exact hz
  have m0 : ∀ j, j ≠ 13 → j ≠ 14 → j ≠ 15 → j ≠ 16 → ppar0 M 0 j = M 0 j := fun j a b c d => by
    unfold ppar0
    rw [zup_ne _ _ _ _ (Or.inr d), zup_ne _ _ _ _ (Or.inr a), zup_ne _ _ _ _ (Or.inr c), zup_ne _ _ _ _ (Or.inr b)]
  have mr : ∀ r, r ≠ 0 → ppar0 M r = M r := fun r h => by
    unfold ppar0
    rw [zup_r h, zup_r h, zup_r h, zup_r h]
  have h6' : ∀ k, iv 7 (brdC C z 6 k) := fun k => by rw [r0 6 (by decide) (by decide)]; exact h6 k
  have m13 : ppar0 M 0 13 = 0 := by
    unfold ppar0
    rw [zup_ne _ _ _ _ (by omega), zup_at]
  have m14 : ppar0 M 0 14 = 0 := by
    unfold ppar0
    rw [zup_ne _ _ _ _ (by omega), zup_ne _ _ _ _ (by omega), zup_ne _ _ _ _ (by omega), zup_at]
  have m15 : ppar0 M 0 15 = -9 := by
    unfold ppar0
    rw [zup_ne _ _ _ _ (by omega), zup_ne _ _ _ _ (by omega), zup_at]
  have m16 : ppar0 M 0 16 = 0 := by
    unfold ppar0
    rw [zup_at]
  have hPS : PS b0 n0 t.1 (g, R, f, brdC C z) (ppar0 M) len tx g f R (brdC C z) (ppar0 M) t [] 0 0 none := by
    refine ⟨trivial, ⟨hT.at (r0 1 (by decide) (by decide)) (m0 8 (by decide) (by decide) (by decide) (by decide)) (mr 6 (by decide)), ⟨c21, (m0 1 (by decide) (by decide) (by decide) (by decide)).trans hN, m16, m14, m15⟩, ⟨Nat.zero_le _, Nat.le_refl _, Nat.le_refl _, Nat.le_refl _, Nat.le_refl _, ht⟩, c29, m13⟩, ⟨fun n a b => by omega, fun i h => by omega, fun n a b => by omega, fun h => by omega⟩, ⟨fun n a b => by omega, fun n n' a b c => by omega⟩, KB.rf h6', ⟨fun _ _ _ _ _ _ _ => rfl, fun _ _ _ _ _ _ _ => rfl, fun _ _ => rfl⟩⟩
  obtain ⟨a1, a2⟩ := (READ (b0 := b0) (n0 := n0) (fs := t.1) (S0 := (g, R, f, brdC C z)) (M0 := ppar0 M) (len := len) (tx := tx) (t0 := t) (how := how) hn0 h8 len).1 g f R (brdC C z) (ppar0 M) t [] 0 0 pparf hPS (Or.inr rfl) rfl c22 (fun _ q => by
    have z2 := q.2.1
    rw [c23] at z2
    exact absurd z2 (by decide)) c70 (fun n _ => ⟨rfl, rfl, rfl⟩) (Or.inl rfl) (by omega) (by show len + 3 ≤ 300; omega)
  exact ⟨⟨by rw [hN]; exact iv_nI (by omega) (by decide), a1, a2.2.2.1⟩, a2⟩
