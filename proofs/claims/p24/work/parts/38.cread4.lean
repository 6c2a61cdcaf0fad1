/-! The class's reader, over the block: what stays true from byte to byte; the reading of a text; a body. -/
theorem bepA_r {f : zI} {R : zRf} {r : Nat} (h2 : r ≠ 2) (h5 : r ≠ 5) (h7 : r ≠ 7) : ∀ (n : Nat) (C : zI), bepA f R n C r = C r := by
  intro n
  induction n with
  | zero => intro C; exact zup_r h2
  | succ k ih =>
    intro C
    unfold bepA
    split
    · rw [zup_r h2, zup_r h5]
    · split
      · split
        · rw [zup_r h2, zup_r h7, zup_r h5]
        · rw [zup_r h2, zup_r h5]
      · rw [ih, zup_r h2, zup_r h5]
theorem bepA_ct {f : zI} {R : zRf} : ∀ (n : Nat) (C : zI), bepA f R n C 2 1 = C 2 1 := by
  intro n
  induction n with
  | zero => intro C; exact zup_ne _ _ _ _ (by omega)
  | succ k ih =>
    intro C
    unfold bepA
    split
    · rw [zup_ne _ _ _ _ (by omega), zup_ne _ _ _ _ (by omega)]
    · split
      · split
        · rw [zup_ne _ _ _ _ (by omega), zup_ne _ _ _ _ (by omega), zup_ne _ _ _ _ (by omega)]
        · rw [zup_ne _ _ _ _ (by omega), zup_ne _ _ _ _ (by omega)]
      · rw [ih, zup_ne _ _ _ _ (by omega), zup_ne _ _ _ _ (by omega)]
theorem bepA_dp {f : zI} {R : zRf} : ∀ (n : Nat) (C : zI), C 2 9 = nI n → n < 2 ^ 31 → ∃ n', n' ≤ n ∧ bepA f R n C 2 9 = nI n' := by
  intro n
  induction n with
  | zero => intro C h _; exact ⟨0, Nat.le_refl _, (zup_ne _ _ _ _ (by omega)).trans h⟩
  | succ k ih =>
    intro C h hn
    unfold bepA
    split
    · exact ⟨k + 1, Nat.le_refl _, by rw [zup_ne _ _ _ _ (by omega), zup_ne _ _ _ _ (by omega)]; exact h⟩
    · split
      · split
        · exact ⟨k + 1, Nat.le_refl _, by rw [zup_ne _ _ _ _ (by omega), zup_ne _ _ _ _ (by omega), zup_ne _ _ _ _ (by omega)]; exact h⟩
        · exact ⟨k + 1, Nat.le_refl _, by rw [zup_ne _ _ _ _ (by omega), zup_ne _ _ _ _ (by omega)]; exact h⟩
      · obtain ⟨n', h1, h2⟩ := ih (zup (zup C 5 (k + 1) (C 5 (k + 1) + 1)) 2 9 (C 2 9 - 1)) (by rw [zup_at, h]; exact ixS (a := k + 1) (b := 1) rfl rfl (by omega)) (by omega)
        exact ⟨n', by omega, h2⟩
theorem dxE_old {g : zG} {x : Int32} {e : Nat} (he : e < g.1) : (dxG (znG g 1 0) g.1 x).2.2.2 e = g.2.2.2 e ∧ (dxG (znG g 1 0) g.1 x).2.1 e = g.2.1 e ∧ (dxG (znG g 1 0) g.1 x).2.2.1 e = g.2.2.1 e := by
  unfold dxG
  split
  · refine ⟨?_, ?_, ?_⟩
    · show zup (zu1 (zup (zu1 (zu1 g.2.2.2 g.1 _) (g.1 + 1) _) g.1 5 _) (g.1 + 1 + 1) _) g.1 6 _ e = _
      rw [zup_r (by omega), zu1_ne _ _ _ (by omega), zup_r (by omega), zu1_ne _ _ _ (by omega), zu1_ne _ _ _ (by omega)]
    · show zu1 (zu1 (zu1 g.2.1 g.1 _) (g.1 + 1) _) (g.1 + 1 + 1) _ e = _
      rw [zu1_ne _ _ _ (by omega), zu1_ne _ _ _ (by omega), zu1_ne _ _ _ (by omega)]
    · show zu1 (zu1 (zu1 g.2.2.1 g.1 _) (g.1 + 1) _) (g.1 + 1 + 1) _ e = _
      rw [zu1_ne _ _ _ (by omega), zu1_ne _ _ _ (by omega), zu1_ne _ _ _ (by omega)]
  · exact ⟨zu1_ne _ _ _ (by omega), zu1_ne _ _ _ (by omega), zu1_ne _ _ _ (by omega)⟩
theorem EO.attd {b0 : Nat} {G : zG} {C : zI} {c n w p : Nat} (h : EO b0 G c) (hb : ∀ b, G.2.2.2 w 5 = some b → ¬ zIn b0 G b 1) : EO b0 (batt G C n w p) c := by
  unfold batt
  split
  · exact h.put (fun _ => by decide)
  · split
    · split
      · exact h.put (fun _ => by decide)
      · rename_i b hb5
        exact h.put (fun q => absurd q (hb b hb5))
    · exact h.put (fun _ => by decide)
theorem EO.add {b0 : Nat} {g : zG} {R : zRf} {f C : zI} {c : Nat} {x : Int32} {n m : Nat} (h : EO b0 g c) (hw : zOK b0 zNo (gv c g R)) (hW : CW b0 g c) (hop : 0 < C 2 9 → R 4 n = some ((R 4 n).getD 0)) : EO b0 (badd g R f C x n m).1 c := by
  have hE := h.exp (x := x) hw hW
  show EO b0 (if 0 < C 2 9 then _ else _) c
  split
  · rename_i hc
    refine hE.attd (fun b hb5 hb1 => ?_)
    have hin := hw.get (t := 14) (t' := 1) (k := n) (hW.i 4 rfl).gv rfl (by decide) (by rw [gv_at (by decide)]; exact hop hc)
    rw [(dxE_old (g := g) (x := x) hin.2.1).1] at hb5
    have hq : zIn b0 g b 14 := hw.get (t := 1) (k := 5) hin rfl (by decide) (by rw [gv_out (hW.out hin (by decide))]; exact hb5)
    have e1 := hb1.2.2
    rw [(dxE_old (g := g) (x := x) hq.2.1).2.1, hq.2.2] at e1
    exact absurd e1 (by decide)
  · exact hE
theorem R3_up {R : zRf} {m : Nat} {a : Nat} (hal : ∀ k, k < m → R 3 k = some ((R 3 k).getD 0)) : ∀ k, k < m + 1 → zup R 3 m (some a) 3 k = some ((zup R 3 m (some a) 3 k).getD 0) := by
  intro k hk
  by_cases h : k = m
  · subst h; rw [zup_at]; rfl
  · rw [zup_ne _ _ _ _ (Or.inr h)]; exact hal k (by omega)
theorem RV.leaf {b0 c K : Nat} {g : zG} {R : zRf} {f C : zI} {x mk : Int32} {n m : Nat} (h : RV b0 c K g R C n m) (hK : K ≤ 119) (hw : zOK b0 zNo (gv c g R)) (hW : CW b0 g c) : ∃ n' m', RV b0 c (K + 1) (baddLeaf g R f C x mk n m).1 (baddLeaf g R f C x mk n m).2.1 (baddLeaf g R f C x mk n m).2.2.2 n' m' := by
  obtain ⟨hdp, hct, hn, hm, h6, hop, hal, hE⟩ := h
  obtain ⟨n', h1, h2⟩ := bepA_dp (f := zup (badd g R f C x n m).2.2.1 g.1 1 mk) (R := (badd g R f C x n m).2.1) n (badd g R f C x n m).2.2.2 (show zup C 2 1 (C 2 1 + 1) 2 9 = nI n from (zup_ne _ _ _ _ (by omega)).trans hdp) (by omega)
  refine ⟨n', m + 1, h2, ?_, by omega, by omega, fun k => ?_, fun k k1 k2 => ?_, ?_, ?_⟩
  · show bepA _ _ n (zup C 2 1 (C 2 1 + 1)) 2 1 = _
    rw [bepA_ct, zup_at]
    exact ixA hct (ixC 1)
  · show iv 7 (bepA _ _ n (zup C 2 1 (C 2 1 + 1)) 6 k)
    rw [bepA_r (by decide) (by decide) (by decide), zup_r (by decide)]
    exact h6 k
  · show zup R 3 m (some g.1) 4 k = some ((zup R 3 m (some g.1) 4 k).getD 0)
    rw [zup_ne _ _ _ _ (by omega)]
    exact hop k k1 (by omega)
  · exact R3_up hal
  · exact hE.add (f := f) (C := C) (x := x) (m := m) hw hW (fun q => hop n (npos hdp (by omega) q) (Nat.le_refl _))
theorem bbexC_9 {C : zI} {nx : Int32} {n : Nat} : bbexC C nx n 2 9 = C 2 9 + 1 := by
  show zup (zup (zup (zup C 2 9 (C 2 9 + 1)) 5 (n + 1) 0) 7 (n + 1) (zup (zup C 2 9 (C 2 9 + 1)) 5 (n + 1) 0 7 n)) 2 2 nx 2 9 = _
  rw [zup_ne _ _ _ _ (by omega), zup_ne _ _ _ _ (by omega), zup_ne _ _ _ _ (by omega), zup_at]
theorem bbexC_1 {C : zI} {nx : Int32} {n : Nat} : bbexC C nx n 2 1 = C 2 1 := by
  show zup (zup (zup (zup C 2 9 (C 2 9 + 1)) 5 (n + 1) 0) 7 (n + 1) (zup (zup C 2 9 (C 2 9 + 1)) 5 (n + 1) 0 7 n)) 2 2 nx 2 1 = _
  rw [zup_ne _ _ _ _ (by omega), zup_ne _ _ _ _ (by omega), zup_ne _ _ _ _ (by omega), zup_ne _ _ _ _ (by omega)]
theorem bbexC_6 {C : zI} {nx : Int32} {n : Nat} : bbexC C nx n 6 = C 6 := by
  show zup (zup (zup (zup C 2 9 (C 2 9 + 1)) 5 (n + 1) 0) 7 (n + 1) (zup (zup C 2 9 (C 2 9 + 1)) 5 (n + 1) 0 7 n)) 2 2 nx 6 = _
  rw [zup_r (by decide), zup_r (by decide), zup_r (by decide), zup_r (by decide)]
theorem RV.bex {b0 c K : Nat} {g : zG} {R : zRf} {f C : zI} {x nx : Int32} {n m : Nat} (h : RV b0 c K g R C n m) (hK : K ≤ 119) (hw : zOK b0 zNo (gv c g R)) (hW : CW b0 g c) : RV b0 c (K + 1) (bbex g R f C x nx n m).1 (bbex g R f C x nx n m).2.1 (bbex g R f C x nx n m).2.2.2 (n + 1) (m + 1) := by
  obtain ⟨hdp, hct, hn, hm, h6, hop, hal, hE⟩ := h
  refine ⟨?_, ?_, by omega, by omega, fun k => ?_, fun k k1 k2 => ?_, fun k k1 => ?_, ?_⟩
  · show bbexC (zup C 2 1 (C 2 1 + 1)) nx n 2 9 = _
    rw [bbexC_9, zup_ne _ _ _ _ (by omega)]
    exact ixA hdp (ixC 1)
  · show bbexC (zup C 2 1 (C 2 1 + 1)) nx n 2 1 = _
    rw [bbexC_1, zup_at]
    exact ixA hct (ixC 1)
  · show iv 7 (bbexC (zup C 2 1 (C 2 1 + 1)) nx n 6 k)
    rw [bbexC_6, zup_ne _ _ _ _ (by omega)]
    exact h6 k
  · show zup (zup (zup R 3 m (some g.1)) 4 (n + 1) (some g.1)) 8 (n + 1) (zup (zup R 3 m (some g.1)) 4 (n + 1) (some g.1) 8 n) 4 k = some ((zup (zup (zup R 3 m (some g.1)) 4 (n + 1) (some g.1)) 8 (n + 1) (zup (zup R 3 m (some g.1)) 4 (n + 1) (some g.1) 8 n) 4 k).getD 0)
    rw [zup_ne _ _ _ _ (by omega)]
    by_cases hk : k = n + 1
    · subst hk; rw [zup_at]; rfl
    · rw [zup_ne _ _ _ _ (Or.inr hk), zup_ne _ _ _ _ (by omega)]; exact hop k k1 (by omega)
  · show zup (zup (zup R 3 m (some g.1)) 4 (n + 1) (some g.1)) 8 (n + 1) (zup (zup R 3 m (some g.1)) 4 (n + 1) (some g.1) 8 n) 3 k = some ((zup (zup (zup R 3 m (some g.1)) 4 (n + 1) (some g.1)) 8 (n + 1) (zup (zup R 3 m (some g.1)) 4 (n + 1) (some g.1) 8 n) 3 k).getD 0)
    rw [zup_ne _ _ _ _ (by omega), zup_ne _ _ _ _ (by omega)]
    exact R3_up hal k k1
  · have hA := hE.add (f := f) (x := x) (m := m) hw hW (fun q => hop n (npos hdp (by omega) q) (Nat.le_refl _))
    show EO b0 (bbexG g R f C x n m) c
    unfold bbexG
    split
    · exact hA.put (fun _ => by decide)
    · exact hA
theorem RV.w {b0 c K K' : Nat} {g : zG} {R : zRf} {C : zI} {n m : Nat} (h : RV b0 c K g R C n m) (hK : K ≤ K') : RV b0 c K' g R C n m :=
  ⟨h.1, h.2.1, by have := h.2.2.1; omega, by have := h.2.2.2.1; omega, h.2.2.2.2⟩
theorem RV.accE {b0 c K : Nat} {g : zG} {R : zRf} {f C : zI} {x : Int32} {n m : Nat} (h : RV b0 c K g R C n m) (hK : K ≤ 119) (hw : zOK b0 zNo (gv c g R)) (hW : CW b0 g c) : ∃ n' m', RV b0 c (K + 1) (baccE g R f C x n m).1.1 (baccE g R f C x n m).1.2.1 (baccE g R f C x n m).1.2.2.2 n' m' := by
  have h0 : ∃ n' m', RV b0 c (K + 1) g R C n' m' := ⟨n, m, h.w (by omega)⟩
  unfold baccE
  split
  · exact h.dig.leaf hK hw hW
  · split
    · split
      · exact h0
      · exact h.leaf hK hw hW
    · split
      · split
        · exact h0
        · exact ⟨_, _, h.bex hK hw hW⟩
      · split
        · exact ⟨_, _, h.bex hK hw hW⟩
        · exact h0
theorem iv_up {C : zI} {n : Nat} {v : Int32} (h6 : ∀ k, iv 7 (C 6 k)) (hv : iv 7 v) : ∀ k, iv 7 (zup C 6 n v 6 k) := by
  intro k
  by_cases h : k = n
  · subst h; rw [zup_at]; exact hv
  · rw [zup_ne _ _ _ _ (Or.inr h)]; exact h6 k
theorem iv6_7 {x : Int32} (h : ¬ x < 0 ∧ x < 6) : iv 7 x := by
  obtain ⟨q, h1, h2⟩ := nI_of h.1
  have h3 := h.2
  rw [h2] at h3 ⊢
  exact iv_nI (by have := (nI_ltI (b := 6) h1 (by decide)).mp h3; omega) (by decide)
theorem RV.accC {b0 c K : Nat} {g : zG} {R : zRf} {f C : zI} {x : Int32} {n m : Nat} (h : RV b0 c K g R C n m) (hK : K ≤ 119) : ∃ n' m', RV b0 c (K + 1) (bclsA g R f C x n).1.1 (bclsA g R f C x n).1.2.1 (bclsA g R f C x n).1.2.2.2 n' m' := by
  have h0 : ∃ n' m', RV b0 c (K + 1) g R C n' m' := ⟨n, m, h.w (by omega)⟩
  have hcl : ∀ (v : Int32) (r : Option Nat), iv 7 v → ∃ n' m', RV b0 c (K + 1) g (zup R 8 n r) (zup (zup C 6 n v) 2 2 1) n' m' := by
    intro v r hv
    obtain ⟨hdp, hct, hn, hm, h6, hop, hal, hE⟩ := h
    refine ⟨n, m, ?_, ?_, by omega, by omega, fun k => ?_, fun k k1 k2 => ?_, fun k k1 => ?_, hE⟩
    · rw [zup_ne _ _ _ _ (by omega), zup_ne _ _ _ _ (by omega)]; exact hdp
    · rw [zup_ne _ _ _ _ (by omega), zup_ne _ _ _ _ (by omega)]; exact hct
    · rw [zup_ne _ _ _ _ (by omega)]; exact iv_up h6 hv k
    · rw [zup_ne _ _ _ _ (by omega)]; exact hop k k1 k2
    · rw [zup_ne _ _ _ _ (by omega)]; exact hal k k1
  unfold bclsA
  split
  · exact h0
  · rename_i h1
    split
    · obtain ⟨hdp, hct, hn, hm, h6, hop, hal, hE⟩ := h
      have hn1 := npos1 hdp (by omega) h1
      obtain ⟨n', q1, q2⟩ := bepA_dp (f := f) (R := R) (n - 1) (zup C 2 9 (C 2 9 - 1)) (by rw [zup_at, hdp]; exact ixS (a := n) (b := 1) rfl rfl hn1) (by omega)
      refine ⟨n', m, q2, ?_, by omega, by omega, fun k => ?_, fun k k1 k2 => hop k k1 (by omega), hal, hE⟩
      · show bepA f R (n - 1) (zup C 2 9 (C 2 9 - 1)) 2 1 = _
        rw [bepA_ct, zup_ne _ _ _ _ (by omega)]; exact hct
      · show iv 7 (bepA f R (n - 1) (zup C 2 9 (C 2 9 - 1)) 6 k)
        rw [bepA_r (by decide) (by decide) (by decide), zup_r (by decide)]; exact h6 k
    · split
      · split
        · exact hcl 6 _ (iv_nI (n := 6) (by decide) (by decide))
        · exact h0
      · split
        · rename_i hop6
          split
          · exact hcl _ _ (iv6_7 hop6)
          · exact h0
        · exact h0
theorem RV.accV {b0 c K : Nat} {g : zG} {R : zRf} {f C : zI} {x : Int32} {n m : Nat} (h : RV b0 c K g R C n m) : ∃ n' m', RV b0 c (K + 1) (bvarA g R f C x n).1.1 (bvarA g R f C x n).1.2.1 (bvarA g R f C x n).1.2.2.2 n' m' := by
  have h0 := h.w (Nat.le_succ K)
  unfold bvarA
  split
  · split
    · exact ⟨n, m, h0.c (C' := zup C 2 2 0) (zup_ne _ _ _ _ (by omega)) (zup_ne _ _ _ _ (by omega)) (zup_r (by decide))⟩
    · exact ⟨n, m, h0.c (C' := zup (zup C 7 n (C 7 (n - 1) ||| 1 <<< ((x - 97) &&& 31))) 2 2 0) ((zup_ne _ _ _ _ (by omega)).trans (zup_ne _ _ _ _ (by omega))) ((zup_ne _ _ _ _ (by omega)).trans (zup_ne _ _ _ _ (by omega))) ((zup_r (by decide)).trans (zup_r (by decide)))⟩
  · exact ⟨n, m, h0⟩
theorem RV.accM {b0 c K : Nat} {g : zG} {R : zRf} {f C : zI} {x lo sz : Int32} {n m : Nat} (h : RV b0 c K g R C n m) : ∃ n' m', RV b0 c (K + 1) (bmarkA g R f C x lo sz n).1.1 (bmarkA g R f C x lo sz n).1.2.1 (bmarkA g R f C x lo sz n).1.2.2.2 n' m' := by
  have h0 := h.w (Nat.le_succ K)
  unfold bmarkA
  split
  · exact ⟨n, m, h0.c (C' := zup C 2 2 0) (zup_ne _ _ _ _ (by omega)) (zup_ne _ _ _ _ (by omega)) (zup_r (by decide))⟩
  · exact ⟨n, m, h0⟩
theorem RV.acc {b0 c K : Nat} {g : zG} {R : zRf} {f C : zI} {x : Int32} {n m : Nat} (h : RV b0 c K g R C n m) (hK : K ≤ 119) (hw : zOK b0 zNo (gv c g R)) (hW : CW b0 g c) : ∃ n' m', RV b0 c (K + 1) (bacc g R f C x n m).1.1 (bacc g R f C x n m).1.2.1 (bacc g R f C x n m).1.2.2.2 n' m' := by
  unfold bacc
  split
  · exact h.dig.accE hK hw hW
  · split
    · exact h.dig.accV
    · split
      · exact h.dig.accM
      · split
        · exact h.dig.accM
        · split
          · exact h.dig.accC hK
          · exact ⟨n, m, (h.dig (v := 0)).w (by omega)⟩
theorem RV.digi {b0 c K : Nat} {g : zG} {R : zRf} {f C : zI} {x : Int32} {n m : Nat} (h : RV b0 c K g R C n m) : ∃ n' m', RV b0 c (K + 1) (bdig g R f C x m).1 (bdig g R f C x m).2.1 (bdig g R f C x m).2.2.2 n' m' := by
  unfold bdig
  split
  · exact ⟨n, m, (h.dig (v := C 2 3 + 1)).w (by omega)⟩
  · exact ⟨n, m, (h.dig (v := C 2 3 + 1)).w (by omega)⟩
theorem RV.tn {b0 c K : Nat} {g : zG} {R : zRf} {C : zI} {n m : Nat} (h : RV b0 c K g R C n m) (hK : K ≤ 120) : tn (C 2 9) = n ∧ tn (C 2 1) = m :=
  ⟨by rw [h.1]; exact tn_nI (by have := h.2.2.1; omega), by rw [h.2.1]; exact tn_nI (by have := h.2.2.2.1; omega)⟩
/-- the bytes of a text from k on, j of them -/
def brd (len : Nat) : Nat → Nat → bSt → bSt × Int32
  | 0, _, S => (S, if S.2.2.2 2 2 = 5 then -9 else nI len)
  | j + 1, k, S =>
    if S.2.2.2 1 k = 32 then brd len j (k + 1) (S.1, S.2.1, S.2.2.1, zup S.2.2.2 2 3 0) else
    if dgt (S.2.2.2 1 k) ∧ 0 < S.2.2.2 2 3 ∧ S.2.2.2 2 3 < 3 then brd len j (k + 1) (bdig S.1 S.2.1 S.2.2.1 S.2.2.2 (S.2.2.2 1 k) (tn (S.2.2.2 2 1))) else
    if (bacc S.1 S.2.1 S.2.2.1 S.2.2.2 (S.2.2.2 1 k) (tn (S.2.2.2 2 9)) (tn (S.2.2.2 2 1))).2 = 0 then ((bacc S.1 S.2.1 S.2.2.1 S.2.2.2 (S.2.2.2 1 k) (tn (S.2.2.2 2 9)) (tn (S.2.2.2 2 1))).1, nI k) else
    brd len j (k + 1) (bacc S.1 S.2.1 S.2.2.1 S.2.2.2 (S.2.2.2 1 k) (tn (S.2.2.2 2 9)) (tn (S.2.2.2 2 1))).1
theorem brd_b {len j k : Nat} {g : zG} {R : zRf} {f C : zI} (h : C 1 k = 32) : brd len (j + 1) k (g, R, f, C) = brd len j (k + 1) (g, R, f, zup C 2 3 0) := if_pos h
theorem brd_d {len j k n m : Nat} {g : zG} {R : zRf} {f C : zI} (h : ¬ C 1 k = 32) (h2 : dgt (C 1 k) ∧ 0 < C 2 3 ∧ C 2 3 < 3) (hn : tn (C 2 9) = n ∧ tn (C 2 1) = m) : brd len (j + 1) k (g, R, f, C) = brd len j (k + 1) (bdig g R f C (C 1 k) m) := by
  obtain ⟨rfl, rfl⟩ := hn
  exact (if_neg h).trans (if_pos h2)
theorem brd_0 {len j k n m : Nat} {g : zG} {R : zRf} {f C : zI} (h : ¬ C 1 k = 32) (h2 : ¬ (dgt (C 1 k) ∧ 0 < C 2 3 ∧ C 2 3 < 3)) (hn : tn (C 2 9) = n ∧ tn (C 2 1) = m) (h3 : (bacc g R f C (C 1 k) n m).2 = 0) : brd len (j + 1) k (g, R, f, C) = ((bacc g R f C (C 1 k) n m).1, nI k) := by
  obtain ⟨rfl, rfl⟩ := hn
  exact (if_neg h).trans ((if_neg h2).trans (if_pos h3))
theorem brd_1 {len j k n m : Nat} {g : zG} {R : zRf} {f C : zI} (h : ¬ C 1 k = 32) (h2 : ¬ (dgt (C 1 k) ∧ 0 < C 2 3 ∧ C 2 3 < 3)) (hn : tn (C 2 9) = n ∧ tn (C 2 1) = m) (h3 : ¬ (bacc g R f C (C 1 k) n m).2 = 0) : brd len (j + 1) k (g, R, f, C) = brd len j (k + 1) (bacc g R f C (C 1 k) n m).1 := by
  obtain ⟨rfl, rfl⟩ := hn
  exact (if_neg h).trans ((if_neg h2).trans (if_neg h3))
set_option maxRecDepth 20000 in
set_option maxHeartbeats 800000 in
theorem Bl_X6_read {l : Launch} {d : Nat} {D : zD} {b0 : Nat} {g : zG} {len : Nat} {z : Int32} {c : Nat} (hlen : len ≤ 120) (hd : 6 ≤ d) (c1 c2 : Nat) (q0 : bSt × Int32) : ∀ (j k : Nat) (G : zG) (R : zRf) (f C : zI) (cs ns : Nat) (y : Option Value) (n m : Nat), k + j = len → brd len j k (G, R, f, C) = q0 → CW b0 G c → CF c R → zOK b0 zNo (gv c G R) → zLe g G → RV b0 c k G R C n m → cs + 3 * j ≤ c1 → ns + 24 * j ≤ c2 → zS l d D b0 mX6_read cs ns 39 [some (.ref (c + 2)), some (.ref (c + 1)), some (.int (nI len)), some (.int z), some (.int (nI k)), y] [] (gv c G R) (cv c f C) (zq D b0 (zCy b0 zNo c g (some (.int q0.2)) q0.1.1 q0.1.2.1 q0.1.2.2.1 q0.1.2.2.2 c1 c2)) := by
  intro j
  induction j with
  | zero =>
    intro k G R f C cs ns y n m hk hq hW hF hw hle hV hcs hns
    obtain rfl : k = len := hk
    show zS _ _ _ _ _ _ _ 39 _ _ _ _ _
    refine z_iload4 dX6_read_39 ?_
    refine z_iload2 dX6_read_41 ?_
    refine z_icmp_ge (tgt := 123) dX6_read_42 (by decide) (fun c42 => ?_) (fun c42 => ?_)
    · show zS _ _ _ _ _ _ _ 123 _ _ _ _ _
      refine z_aload0 dX6_read_123 ?_
      refine zc_getI (j := 2) hW fl_RX6_43 rfl dX6_read_124 ?_
      refine z_iconst (v := 5) dX6_read_127 (by decide) ?_
      refine z_icmp_ne (tgt := 136) dX6_read_128 (by decide) (fun c128 => ?_) (fun c128 => ?_)
      · show zS _ _ _ _ _ _ _ 136 _ _ _ _ _
        rw [← hq, show brd k 0 k (G, R, f, C) = ((G, R, f, C), nI k) from congrArg (Prod.mk _) (if_neg c128)]
        refine z_iload2 dX6_read_136 ?_
        refine z_iret dX6_read_137 rfl ?_
        exact ⟨rfl, rfl, rfl, by omega, by omega, hw, hle, hW⟩
      · show zS _ _ _ _ _ _ _ 131 _ _ _ _ _
        rw [← hq, show brd k 0 k (G, R, f, C) = ((G, R, f, C), -9) from congrArg (Prod.mk _) (if_pos c128)]
        refine z_bipush (v := (-9)) dX6_read_131 (by decide) ?_
        refine z_goto (tgt := 137) dX6_read_133 (by decide) ?_
        show zS _ _ _ _ _ _ _ 137 _ _ _ _ _
        refine z_iret dX6_read_137 rfl ?_
        exact ⟨rfl, rfl, rfl, by omega, by omega, hw, hle, hW⟩
    · exact absurd c42 (nI_nlt (Nat.le_refl _) (by omega))
  | succ j ih =>
    intro k G R f C cs ns y n m hk hq hW hF hw hle hV hcs hns
    have htn := hV.tn (by omega)
    have hV9 : RV b0 c 119 G R C n m := hV.w (by omega)
    show zS _ _ _ _ _ _ _ 39 _ _ _ _ _
    refine z_iload4 dX6_read_39 ?_
    refine z_iload2 dX6_read_41 ?_
    refine z_icmp_ge (tgt := 123) dX6_read_42 (by decide) (fun c42 => ?_) (fun c42 => ?_)
    · exact absurd (nI_lt (by omega) (by omega)) c42
    · show zS _ _ _ _ _ _ _ 45 _ _ _ _ _
      refine z_iload4 dX6_read_45 ?_
      refine z_aload1 dX6_read_47 ?_
      refine zc_len (j := 1) hW rfl (by decide) dX6_read_48 ?_
      refine z_icmp_ge (tgt := 123) dX6_read_49 (by decide) (fun c49 => ?_) (fun c49 => ?_)
      · exact absurd (nI_lt (b := 120) (by omega) (by decide)) c49
      · show zS _ _ _ _ _ _ _ 52 _ _ _ _ _
        refine z_aload1 dX6_read_52 ?_
        refine z_iload4 dX6_read_53 ?_
        refine zc_ld (j := 1) hW rfl (by decide) (rfl : nI k = nI k) (by omega) dX6_read_55 ?_
        refine z_istore5 dX6_read_56 ?_
        refine z_iload5 dX6_read_58 ?_
        refine z_bipush (v := 32) dX6_read_60 (by decide) ?_
        refine z_icmp_ne (tgt := 73) dX6_read_62 (by decide) (fun c62 => ?_) (fun c62 => ?_)
        · show zS _ _ _ _ _ _ _ 73 _ _ _ _ _
          refine z_iload5 dX6_read_73 ?_
          refine z_callSNi zmd_X11_isDigit (host := "EffectMachine") (by decide) zst_X11_isDigit (K_X11_isDigit (d := d - 1) _) rfl rfl (by omega) rfl dX6_read_75 ?_
          refine z_if_eq (tgt := 105) dX6_read_78 (by decide) (fun c78 => ?_) (fun c78 => ?_)
          · show zS _ _ _ _ _ _ _ 105 _ _ _ _ _
            have hnd : ¬ (dgt (C 1 k) ∧ 0 < C 2 3 ∧ C 2 3 < 3) := fun q => zB_f c78 q.1
            refine z_aload0 dX6_read_105 ?_
            refine z_iload5 dX6_read_106 ?_
            refine z_callV zmd_X6_accept rfl (by decide) zl_RX6_55 zin_X6_accept zsel_X6_accept (B_X6_accept (d := d - 1) hW hF hw _ n m hV9 (by omega)) (hW.i 2 rfl) rfl rfl (by omega) rfl dX6_read_108 (fun r2 g2 f2 mc2 ms2 q2 => ?_)
            obtain ⟨rfl, rfl, rfl, hc2, hs2, w2, k2, b2⟩ := q2
            refine z_if_ne (tgt := 117) dX6_read_111 (by decide) (fun c111 => ?_) (fun c111 => ?_)
            · show zS _ _ _ _ _ _ _ 117 _ _ _ _ _
              refine z_iinc4 (y := 1) dX6_read_117 (by decide) ?_
              refine z_goto (tgt := 39) dX6_read_120 (by decide) ?_
              rw [nI_1]
              obtain ⟨n1, m1, hV1⟩ := hV.acc (f := f) (x := C 1 k) (by omega) hw hW
              exact ih (k + 1) _ _ _ _ _ _ _ n1 m1 (by omega) ((brd_1 c62 hnd htn c111).symm.trans hq) b2 (hF.acc) w2 (hle.tr k2) hV1 (by omega) (by omega)
            · show zS _ _ _ _ _ _ _ 114 _ _ _ _ _
              rw [← hq, brd_0 c62 hnd htn c111]
              refine z_iload4 dX6_read_114 ?_
              refine z_iret dX6_read_116 rfl ?_
              exact ⟨rfl, rfl, rfl, by omega, by omega, w2, (hle.tr k2), b2⟩
          · show zS _ _ _ _ _ _ _ 81 _ _ _ _ _
            refine z_aload0 dX6_read_81 ?_
            refine zc_getI (j := 2) hW fl_RX6_40 rfl dX6_read_82 ?_
            refine z_if_le (tgt := 105) dX6_read_85 (by decide) (fun c85 => ?_) (fun c85 => ?_)
            · show zS _ _ _ _ _ _ _ 105 _ _ _ _ _
              have hnd : ¬ (dgt (C 1 k) ∧ 0 < C 2 3 ∧ C 2 3 < 3) := fun q => c85 q.2.1
              refine z_aload0 dX6_read_105 ?_
              refine z_iload5 dX6_read_106 ?_
              refine z_callV zmd_X6_accept rfl (by decide) zl_RX6_55 zin_X6_accept zsel_X6_accept (B_X6_accept (d := d - 1) hW hF hw _ n m hV9 (by omega)) (hW.i 2 rfl) rfl rfl (by omega) rfl dX6_read_108 (fun r3 g3 f3 mc3 ms3 q3 => ?_)
              obtain ⟨rfl, rfl, rfl, hc3, hs3, w3, k3, b3⟩ := q3
              refine z_if_ne (tgt := 117) dX6_read_111 (by decide) (fun c111 => ?_) (fun c111 => ?_)
              · show zS _ _ _ _ _ _ _ 117 _ _ _ _ _
                refine z_iinc4 (y := 1) dX6_read_117 (by decide) ?_
                refine z_goto (tgt := 39) dX6_read_120 (by decide) ?_
                rw [nI_1]
                obtain ⟨n1, m1, hV1⟩ := hV.acc (f := f) (x := C 1 k) (by omega) hw hW
                exact ih (k + 1) _ _ _ _ _ _ _ n1 m1 (by omega) ((brd_1 c62 hnd htn c111).symm.trans hq) b3 (hF.acc) w3 (hle.tr k3) hV1 (by omega) (by omega)
              · show zS _ _ _ _ _ _ _ 114 _ _ _ _ _
                rw [← hq, brd_0 c62 hnd htn c111]
                refine z_iload4 dX6_read_114 ?_
                refine z_iret dX6_read_116 rfl ?_
                exact ⟨rfl, rfl, rfl, by omega, by omega, w3, (hle.tr k3), b3⟩
            · show zS _ _ _ _ _ _ _ 88 _ _ _ _ _
              refine z_aload0 dX6_read_88 ?_
              refine zc_getI (j := 2) hW fl_RX6_40 rfl dX6_read_89 ?_
              refine z_iconst (v := 3) dX6_read_92 (by decide) ?_
              refine z_icmp_ge (tgt := 105) dX6_read_93 (by decide) (fun c93 => ?_) (fun c93 => ?_)
              · show zS _ _ _ _ _ _ _ 105 _ _ _ _ _
                have hnd : ¬ (dgt (C 1 k) ∧ 0 < C 2 3 ∧ C 2 3 < 3) := fun q => c93 q.2.2
                refine z_aload0 dX6_read_105 ?_
                refine z_iload5 dX6_read_106 ?_
                refine z_callV zmd_X6_accept rfl (by decide) zl_RX6_55 zin_X6_accept zsel_X6_accept (B_X6_accept (d := d - 1) hW hF hw _ n m hV9 (by omega)) (hW.i 2 rfl) rfl rfl (by omega) rfl dX6_read_108 (fun r4 g4 f4 mc4 ms4 q4 => ?_)
                obtain ⟨rfl, rfl, rfl, hc4, hs4, w4, k4, b4⟩ := q4
                refine z_if_ne (tgt := 117) dX6_read_111 (by decide) (fun c111 => ?_) (fun c111 => ?_)
                · show zS _ _ _ _ _ _ _ 117 _ _ _ _ _
                  refine z_iinc4 (y := 1) dX6_read_117 (by decide) ?_
                  refine z_goto (tgt := 39) dX6_read_120 (by decide) ?_
                  rw [nI_1]
                  obtain ⟨n1, m1, hV1⟩ := hV.acc (f := f) (x := C 1 k) (by omega) hw hW
                  exact ih (k + 1) _ _ _ _ _ _ _ n1 m1 (by omega) ((brd_1 c62 hnd htn c111).symm.trans hq) b4 (hF.acc) w4 (hle.tr k4) hV1 (by omega) (by omega)
                · show zS _ _ _ _ _ _ _ 114 _ _ _ _ _
                  rw [← hq, brd_0 c62 hnd htn c111]
                  refine z_iload4 dX6_read_114 ?_
                  refine z_iret dX6_read_116 rfl ?_
                  exact ⟨rfl, rfl, rfl, by omega, by omega, w4, (hle.tr k4), b4⟩
              · show zS _ _ _ _ _ _ _ 96 _ _ _ _ _
                refine z_aload0 dX6_read_96 ?_
                refine z_iload5 dX6_read_97 ?_
                refine z_callV zmd_X6_addDigit rfl (by decide) zl_RX6_51 zin_X6_addDigit zsel_X6_addDigit (B_X6_addDigit (d := d - 1) hW hF hw _ n m hV9) (hW.i 2 rfl) rfl rfl (by omega) rfl dX6_read_99 (fun r5 g5 f5 mc5 ms5 q5 => ?_)
                obtain ⟨rfl, rfl, rfl, hc5, hs5, w5, k5, b5⟩ := q5
                refine z_goto (tgt := 117) dX6_read_102 (by decide) ?_
                show zS _ _ _ _ _ _ _ 117 _ _ _ _ _
                refine z_iinc4 (y := 1) dX6_read_117 (by decide) ?_
                refine z_goto (tgt := 39) dX6_read_120 (by decide) ?_
                rw [nI_1]
                obtain ⟨n1, m1, hV1⟩ := hV.digi (f := f) (x := C 1 k)
                exact ih (k + 1) _ _ _ _ _ _ _ n1 m1 (by omega) ((brd_d c62 ⟨zB_t c78, c85, c93⟩ htn).symm.trans hq) b5 (hF.digi) w5 (hle.tr k5) hV1 (by omega) (by omega)
        · show zS _ _ _ _ _ _ _ 65 _ _ _ _ _
          refine z_aload0 dX6_read_65 ?_
          refine z_iconst (v := 0) dX6_read_66 (by decide) ?_
          refine zc_putI (j := 2) hW fl_RX6_40 rfl dX6_read_67 ?_
          refine z_goto (tgt := 117) dX6_read_70 (by decide) ?_
          show zS _ _ _ _ _ _ _ 117 _ _ _ _ _
          refine z_iinc4 (y := 1) dX6_read_117 (by decide) ?_
          refine z_goto (tgt := 39) dX6_read_120 (by decide) ?_
          rw [nI_1]
          exact ih (k + 1) _ _ _ _ _ _ _ n m (by omega) ((brd_b c62).symm.trans hq) hW hF hw hle ((hV.dig).w (by omega)) (by omega) (by omega)
/-- a text is read: its length, whether as a body -/
def brdC (C : zI) (z : Int32) : zI := zup (zup (zup (zup (zup C 2 1 0) 2 9 0) 2 3 0) 2 2 0) 7 0 (if z = 0 then 0 else 8388608)
def bread (g : zG) (R : zRf) (f C : zI) (len : Nat) (z : Int32) : bSt × Int32 := brd len len 0 (g, R, f, brdC C z)
theorem RV.ini {b0 c : Nat} {g : zG} {R : zRf} {C : zI} {z : Int32} (h6 : ∀ k, iv 7 (C 6 k)) (hE : EO b0 g c) : RV b0 c 0 g R (brdC C z) 0 0 := by
  refine ⟨rfl, rfl, Nat.le_refl _, Nat.le_refl _, fun k => ?_, fun k k1 k2 => by omega, fun k k1 => by omega, hE⟩
  show iv 7 (zup (zup (zup (zup (zup C 2 1 0) 2 9 0) 2 3 0) 2 2 0) 7 0 _ 6 k)
  rw [zup_ne _ _ _ _ (by omega), zup_ne _ _ _ _ (by omega), zup_ne _ _ _ _ (by omega), zup_ne _ _ _ _ (by omega), zup_ne _ _ _ _ (by omega)]
  exact h6 k
/-- what stays true while a text is read -/
def RJ (b0 c : Nat) (S : bSt) : Prop := CF c S.2.1 ∧ (∀ k, iv 7 (S.2.2.2 6 k)) ∧ EO b0 S.1 c
theorem brd_CF {c len : Nat} : ∀ (j k : Nat) (S : bSt), CF c S.2.1 → CF c (brd len j k S).1.2.1 := by
  intro j
  induction j with
  | zero => intro k S h; exact h
  | succ j ih =>
    intro k S h
    unfold brd
    split
    · exact ih _ _ h
    · split
      · exact ih _ _ h.digi
      · split
        · exact h.acc
        · exact ih _ _ h.acc
set_option maxRecDepth 20000 in
set_option maxHeartbeats 400000 in
theorem B_X6_read {l : Launch} {d : Nat} {D : zD} {b0 : Nat} {g : zG} {f C : zI} {R : zRf} {c : Nat} (hW : CW b0 g c) (hF : CF c R) (hw : zOK b0 zNo (gv c g R)) (len : Nat) (z : Int32) (hlen : len ≤ 120) (h6 : ∀ k, iv 7 (C 6 k)) (hE : EO b0 g c) (hd : 6 ≤ d) : zM l d D b0 mX6_read [.ref (c + 2), .ref (c + 1), .int (nI len), .int z] (gv c g R) (cv c f C) (zCy b0 zNo c g (some (.int (bread g R f C len z).2)) (bread g R f C len z).1.1 (bread g R f C len z).1.2.1 (bread g R f C len z).1.2.2.1 (bread g R f C len z).1.2.2.2 (3 * len) (24 * len)) := by
  refine zM.start zmd_X6_read (Nat.le_of_ble_eq_true rfl) ⟨rfl, rfl, rfl, rfl, trivial⟩ [some (.ref (c + 2)), some (.ref (c + 1)), some (.int (nI len)), some (.int z), none, none] rfl ?_
  refine z_aload0 dX6_read_0 ?_
  refine z_iconst (v := 0) dX6_read_1 (by decide) ?_
  refine zc_putI (j := 2) hW fl_RX6_33 rfl dX6_read_2 ?_
  refine z_aload0 dX6_read_5 ?_
  refine z_iconst (v := 0) dX6_read_6 (by decide) ?_
  refine zc_putI (j := 2) hW fl_RX6_37 rfl dX6_read_7 ?_
  refine z_aload0 dX6_read_10 ?_
  refine z_iconst (v := 0) dX6_read_11 (by decide) ?_
  refine zc_putI (j := 2) hW fl_RX6_40 rfl dX6_read_12 ?_
  refine z_aload0 dX6_read_15 ?_
  refine z_iconst (v := 0) dX6_read_16 (by decide) ?_
  show zS _ _ _ _ _ _ _ 17 _ _ _ _ _
  refine zc_putI (j := 2) hW fl_RX6_43 rfl dX6_read_17 ?_
  refine z_aload0 dX6_read_20 ?_
  refine zc_getF (j := 2) hW fl_RX6_27 rfl (by decide) (hF _ (List.mem_of_getElem? (i := 10) rfl)) dX6_read_21 ?_
  refine z_iconst (v := 0) dX6_read_24 (by decide) ?_
  refine z_iload3 dX6_read_25 ?_
  refine z_if_eq (tgt := 34) dX6_read_26 (by decide) (fun c26 => ?_) (fun c26 => ?_)
  · show zS _ _ _ _ _ _ _ 34 _ _ _ _ _
    refine z_iconst (v := 0) dX6_read_34 (by decide) ?_
    refine zc_st (j := 7) hW rfl (by decide) (ixC 0) (by decide) dX6_read_35 ?_
    refine z_iconst (v := 0) dX6_read_36 (by decide) ?_
    refine z_istore4 dX6_read_37 ?_
    have e0 : zup (zup (zup (zup (zup C 2 1 0) 2 9 0) 2 3 0) 2 2 0) 7 0 0 = brdC C z := by
      unfold brdC
      rw [if_pos c26]
    rw [e0]
    exact Bl_X6_read hlen hd (3 * len) (24 * len) _ len 0 g R f (brdC C z) _ _ none 0 0 (by omega) rfl hW hF hw zLe.rf (RV.ini h6 hE) (by omega) (by omega)
  · show zS _ _ _ _ _ _ _ 29 _ _ _ _ _
    refine z_ldc dX6_read_29 zk_RX6_46 ?_
    refine z_goto (tgt := 35) dX6_read_31 (by decide) ?_
    show zS _ _ _ _ _ _ _ 35 _ _ _ _ _
    refine zc_st (j := 7) hW rfl (by decide) (ixC 0) (by decide) dX6_read_35 ?_
    refine z_iconst (v := 0) dX6_read_36 (by decide) ?_
    refine z_istore4 dX6_read_37 ?_
    have e0 : zup (zup (zup (zup (zup C 2 1 0) 2 9 0) 2 3 0) 2 2 0) 7 0 8388608 = brdC C z := by
      unfold brdC
      rw [if_neg c26]
    rw [e0]
    exact Bl_X6_read hlen hd (3 * len) (24 * len) _ len 0 g R f (brdC C z) _ _ none 0 0 (by omega) rfl hW hF hw zLe.rf (RV.ini h6 hE) (by omega) (by omega)
theorem CF.read {c : Nat} {g : zG} {R : zRf} {f C : zI} {len : Nat} {z : Int32} (h : CF c R) : CF c (bread g R f C len z).1.2.1 := brd_CF len 0 _ h
