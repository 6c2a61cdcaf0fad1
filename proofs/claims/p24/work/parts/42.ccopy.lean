/-! A run is copied: from one object to another. -/
/-- a run's objects: nine cells from a on -/
def RA (b0 : Nat) (g : zG) (a : Nat) : Prop := (zIn b0 g a 8 ∧ zIn b0 g (a + 1) 16 ∧ zIn b0 g (a + 2) 10 ∧ zIn b0 g (a + 3) 15 ∧ zIn b0 g (a + 4) 3 ∧ zIn b0 g (a + 5) 13 ∧ zIn b0 g (a + 6) 13 ∧ zIn b0 g (a + 7) 13 ∧ zIn b0 g (a + 8) 13) ∧
  (g.2.2.1 (a + 1) = 4 ∧ g.2.2.1 (a + 3) = 100 ∧ g.2.2.1 (a + 5) = 1000 ∧ g.2.2.1 (a + 6) = 1000 ∧ g.2.2.1 (a + 7) = 60 ∧ g.2.2.1 (a + 8) = 6) ∧
  (g.2.2.2 a 1 = some (a + 1) ∧ g.2.2.2 a 8 = some (a + 2) ∧ g.2.2.2 a 9 = some (a + 4) ∧ g.2.2.2 a 10 = some (a + 7) ∧ g.2.2.2 a 12 = some (a + 8) ∧ g.2.2.2 (a + 2) 0 = some (a + 3) ∧ g.2.2.2 (a + 4) 0 = some (a + 5) ∧ g.2.2.2 (a + 4) 4 = some (a + 6))
def kcG (g : zG) (x y k : Nat) : zG := (g.1, g.2.1, g.2.2.1, zu1 g.2.2.2 x (fun i => if i < k then g.2.2.2 y i else g.2.2.2 x i))
theorem kcG_0 (g : zG) (x y : Nat) : kcG g x y 0 = g := by
  refine Prod.ext rfl (Prod.ext rfl (Prod.ext rfl ?_))
  show zu1 g.2.2.2 x (fun i => if i < 0 then g.2.2.2 y i else g.2.2.2 x i) = g.2.2.2
  funext b
  by_cases h : b = x
  · subst h
    rw [zu1_at]
    funext i
    rw [if_neg (Nat.not_lt_zero i)]
  · rw [zu1_ne _ _ _ h]
theorem kcG_s (g : zG) (x y k : Nat) : zpR (kcG g x y k) x k (g.2.2.2 y k) = kcG g x y (k + 1) := by
  refine Prod.ext rfl (Prod.ext rfl (Prod.ext rfl ?_))
  show zup (zu1 g.2.2.2 x _) x k (g.2.2.2 y k) = zu1 g.2.2.2 x _
  funext b i
  by_cases h : b = x
  · subst h
    rw [zu1_at]
    by_cases h2 : i = k
    · subst h2
      rw [zup_at, if_pos (Nat.lt_succ_self _)]
    · rw [zup_ne _ _ _ _ (Or.inr h2), zu1_at]
      by_cases h3 : i < k
      · rw [if_pos h3, if_pos (by omega)]
      · rw [if_neg h3, if_neg (by omega)]
  · rw [zup_ne _ _ _ _ (Or.inl h), zu1_ne _ _ _ h, zu1_ne _ _ _ h]
theorem kcG_ne {g : zG} {x y k b : Nat} (h : b ≠ x) : (kcG g x y k).2.2.2 b = g.2.2.2 b := zu1_ne _ _ _ h
theorem kcG_nf {g : zG} {x y k b j : Nat} (h : b ≠ x) : (kcG g x y k).2.2.2 b j = g.2.2.2 b j := congrFun (zu1_ne _ _ _ h) j
theorem zpR_nf {g : zG} {x k b j : Nat} {v : Option Nat} (h : b ≠ x ∨ j ≠ k) : (zpR g x k v).2.2.2 b j = g.2.2.2 b j := zup_ne _ _ _ _ h
theorem kcG_at {g : zG} {x y k i : Nat} : (kcG g x y k).2.2.2 x i = if i < k then g.2.2.2 y i else g.2.2.2 x i := congrFun (zu1_at _ _ _) i
theorem kcG_le (g : zG) (x y k : Nat) : zLe g (kcG g x y k) := ⟨Nat.le_refl _, fun _ _ => ⟨rfl, rfl⟩⟩
set_option maxRecDepth 20000 in
theorem Kl_X10_copyFrom {l : Launch} {d : Nat} {D : zD} {b0 : Nat} {g : zG} {f : zI} (s t x y n : Nat) (hs : zIn b0 g s 10) (ht : zIn b0 g t 10) (hx : zIn b0 g x 15) (hy : zIn b0 g y 15) (hxl : g.2.2.1 x = 100) (hyl : g.2.2.1 y = 100) (hsx : g.2.2.2 s 0 = some x) (hty : g.2.2.2 t 0 = some y) (hne : x ≠ y) (hn : f t 1 = nI n) (hn1 : n ≤ 100) (Q : Nat → Nat → zKT → Prop) : ∀ (j k : Nat), k + j = n → zOK b0 zNo (kcG g x y k) → (∀ x2 : Int32, zOK b0 zNo (kcG g x y n) → zS l d D b0 mX10_copyFrom 0 0 28 [some (.ref s), some (.ref t), some (.int x2)] [] (kcG g x y n) f Q) → zS l d D b0 mX10_copyFrom 0 0 2 [some (.ref s), some (.ref t), some (.int (nI k))] [] (kcG g x y k) f Q := by
  have hs' : ∀ k, zIn b0 (kcG g x y k) s 10 := fun k => hs
  have ht' : ∀ k, zIn b0 (kcG g x y k) t 10 := fun k => ht
  have hsn : s ≠ x := hs.ne hx (by decide)
  have htn : t ≠ x := ht.ne hx (by decide)
  intro j
  induction j with
  | zero =>
    intro k hk hw kk
    obtain rfl : k = n := hk
    refine z_iload2 dX10_copyFrom_2 ?_
    refine z_aload1 dX10_copyFrom_3 ?_
    refine z_getI fl_RX10_17 (ht' k) dX10_copyFrom_4 ?_
    refine z_icmp_ge (tgt := 28) dX10_copyFrom_7 (by decide) (fun c6 => kk _ hw) (fun c6 => absurd c6 (by rw [hn]; exact nI_nlt (by omega) (by omega)))
  | succ j ih =>
    intro k hk hw kk
    have hx' : zIn b0 (kcG g x y k) x 15 := hx
    have hy' : zIn b0 (kcG g x y k) y 15 := hy
    refine z_iload2 dX10_copyFrom_2 ?_
    refine z_aload1 dX10_copyFrom_3 ?_
    refine z_getI fl_RX10_17 (ht' k) dX10_copyFrom_4 ?_
    refine z_icmp_ge (tgt := 28) dX10_copyFrom_7 (by decide) (fun c6 => absurd (by rw [hn]; exact nI_lt (by omega) (by omega)) c6) (fun c6 => ?_)
    refine z_aload0 dX10_copyFrom_10 ?_
    refine zw_getS hw fl_RX10_11 (hs' k) (by decide) ((kcG_nf hsn).trans hsx) dX10_copyFrom_11 (fun i1 => ?_)
    refine z_iload2 dX10_copyFrom_14 ?_
    refine z_aload1 dX10_copyFrom_15 ?_
    refine zw_getS hw fl_RX10_11 (ht' k) (by decide) ((kcG_nf htn).trans hty) dX10_copyFrom_16 (fun i2 => ?_)
    refine z_iload2 dX10_copyFrom_19 ?_
    refine zw_aald (t' := 2) hw hy' (by decide) hyl (rfl : nI k = nI k) (by omega) (by decide) (fun _ => rfl) (by decide) dX10_copyFrom_20 (fun i3 => ?_)
    refine zw_aast (t' := 2) hw hx' (by decide) hxl (rfl : nI k = nI k) (by omega) (by decide) (fun _ => rfl) i3 dX10_copyFrom_21 (fun w4 => ?_)
    refine z_iinc2 (y := 1) dX10_copyFrom_22 (by decide) ?_
    refine z_goto (tgt := 2) dX10_copyFrom_25 (by decide) ?_
    have e : (kcG g x y k).2.2.2 y k = g.2.2.2 y k := kcG_nf (fun q => hne q.symm)
    rw [e, kcG_s] at w4 ⊢
    rw [nI_1]
    exact ih (k + 1) (by omega) w4 kk
def kstF (f : zI) (s t : Nat) : zI := zup (zup f s 1 (f t 1)) s 2 (zup f s 1 (f t 1) t 2)
set_option maxRecDepth 20000 in
theorem K_X10_copyFrom {l : Launch} {d : Nat} {D : zD} {b0 : Nat} {g : zG} {f : zI} (hw : zOK b0 zNo g) (s t x y n : Nat) (hs : zIn b0 g s 10) (ht : zIn b0 g t 10) (hx : zIn b0 g x 15) (hy : zIn b0 g y 15) (hxl : g.2.2.1 x = 100) (hyl : g.2.2.1 y = 100) (hsx : g.2.2.2 s 0 = some x) (hty : g.2.2.2 t 0 = some y) (hne : x ≠ y) (hn : f t 1 = nI n) (hn1 : n ≤ 100) : zM l d D b0 mX10_copyFrom [.ref s, .ref t] g f (zCx b0 zNo g none (kcG g x y n, kstF f s t) 0 0) := by
  refine zM.start zmd_X10_copyFrom (Nat.le_of_ble_eq_true rfl) ⟨rfl, rfl, trivial⟩ [some (.ref s), some (.ref t), none] rfl ?_
  refine z_iconst (v := 0) dX10_copyFrom_0 (by decide) ?_
  refine z_istore2 dX10_copyFrom_1 ?_
  have hw0 := hw
  rw [← kcG_0 g x y] at hw0
  have q := Kl_X10_copyFrom (l := l) (d := d) (D := D) (f := f) s t x y n hs ht hx hy hxl hyl hsx hty hne hn hn1 (zq D b0 (zCx b0 zNo g none (kcG g x y n, kstF f s t) 0 0)) n 0 (by omega) hw0
  rw [kcG_0 g x y] at q
  refine q (fun x2 w2 => ?_)
  have hs' : zIn b0 (kcG g x y n) s 10 := hs
  have ht' : zIn b0 (kcG g x y n) t 10 := ht
  refine z_aload0 dX10_copyFrom_28 ?_
  refine z_aload1 dX10_copyFrom_29 ?_
  refine z_getI fl_RX10_17 ht' dX10_copyFrom_30 ?_
  refine z_putI fl_RX10_17 hs' dX10_copyFrom_33 ?_
  refine z_aload0 dX10_copyFrom_36 ?_
  refine z_aload1 dX10_copyFrom_37 ?_
  refine z_getI fl_RX10_21 ht' dX10_copyFrom_38 ?_
  refine z_putI fl_RX10_21 hs' dX10_copyFrom_41 ?_
  refine z_ret dX10_copyFrom_44 rfl ?_
  exact ⟨rfl, rfl, rfl, Nat.le_refl _, Nat.le_refl _, w2, kcG_le g x y n⟩
/-- the runs' references, one copied to the other -/
def cpyG (g : zG) (a b n : Nat) : zG :=
  kcG (zpR (zpR (kcG (zpR g a 0 (g.2.2.2 b 0)) (a + 1) (b + 1) 4) a 4 ((kcG (zpR g a 0 (g.2.2.2 b 0)) (a + 1) (b + 1) 4).2.2.2 b 4)) a 5 ((zpR (kcG (zpR g a 0 (g.2.2.2 b 0)) (a + 1) (b + 1) 4) a 4 ((kcG (zpR g a 0 (g.2.2.2 b 0)) (a + 1) (b + 1) 4).2.2.2 b 4)).2.2.2 b 5)) (a + 3) (b + 3) n
def cpyF1 (f : zI) (a b : Nat) : zI := zup f a 2 (f b 2)
def cpyF2 (f : zI) (a b : Nat) : zI := zup (cpyF1 f a b) a 3 (cpyF1 f a b b 3)
def cpyF3 (f : zI) (a b : Nat) : zI := zup (cpyF2 f a b) a 6 (cpyF2 f a b b 6)
def cpyF4 (f : zI) (a b : Nat) : zI := zup (cpyF3 f a b) a 7 (cpyF3 f a b b 7)
def cpyF5 (f : zI) (a b : Nat) : zI := kstF (cpyF4 f a b) (a + 2) (b + 2)
def cpyF6 (g : zG) (f : zI) (a b : Nat) : zI := (kled (g, cpyF5 f a b) (a + 4) (b + 4)).2
def cpyF7 (g : zG) (f : zI) (a b : Nat) : zI := zu1 (cpyF6 g f a b) (a + 7) (va_cpy (cpyF6 g f a b (b + 7)) (cpyF6 g f a b (a + 7)) (Int32.toNatClampNeg 0) (Int32.toNatClampNeg 0) (Int32.toNatClampNeg 60))
def cpyF8 (g : zG) (f : zI) (a b : Nat) : zI := zup (cpyF7 g f a b) a 11 (cpyF7 g f a b b 11)
def cpyF (g : zG) (f : zI) (a b : Nat) : zI := zu1 (cpyF8 g f a b) (a + 8) (va_cpy (cpyF8 g f a b (b + 8)) (cpyF8 g f a b (a + 8)) (Int32.toNatClampNeg 0) (Int32.toNatClampNeg 0) (Int32.toNatClampNeg 6))
set_option maxRecDepth 20000 in
theorem Kl_X8_copyFrom {l : Launch} {d : Nat} {D : zD} {b0 : Nat} {g : zG} {f : zI} (a b : Nat) (ha : RA b0 g a) (hb : RA b0 g b) (hab : a + 9 ≤ b ∨ b + 9 ≤ a) (Q : Nat → Nat → zKT → Prop) : ∀ (j k : Nat), k + j = 4 → zOK b0 zNo (kcG g (a + 1) (b + 1) k) → (∀ x2 : Int32, zOK b0 zNo (kcG g (a + 1) (b + 1) 4) → zS l d D b0 mX8_copyFrom 0 0 33 [some (.ref a), some (.ref b), some (.int x2)] [] (kcG g (a + 1) (b + 1) 4) f Q) → zS l d D b0 mX8_copyFrom 0 0 10 [some (.ref a), some (.ref b), some (.int (nI k))] [] (kcG g (a + 1) (b + 1) k) f Q := by
  intro j
  induction j with
  | zero =>
    intro k hk hw kk
    obtain rfl : k = 4 := hk
    refine z_iload2 dX8_copyFrom_10 ?_
    refine z_iconst (v := 4) dX8_copyFrom_11 (by decide) ?_
    refine z_icmp_ge (tgt := 33) dX8_copyFrom_12 (by decide) (fun c6 => kk _ hw) (fun c6 => absurd c6 (by decide))
  | succ j ih =>
    intro k hk hw kk
    have h1 : zIn b0 (kcG g (a + 1) (b + 1) k) a 8 := ha.1.1
    have h2 : zIn b0 (kcG g (a + 1) (b + 1) k) b 8 := hb.1.1
    have h3 : zIn b0 (kcG g (a + 1) (b + 1) k) (a + 1) 16 := ha.1.2.1
    have h4 : zIn b0 (kcG g (a + 1) (b + 1) k) (b + 1) 16 := hb.1.2.1
    refine z_iload2 dX8_copyFrom_10 ?_
    refine z_iconst (v := 4) dX8_copyFrom_11 (by decide) ?_
    refine z_icmp_ge (tgt := 33) dX8_copyFrom_12 (by decide) (fun c6 => absurd (nI_lt (b := 4) (by omega) (by decide)) c6) (fun c6 => ?_)
    refine z_aload0 dX8_copyFrom_15 ?_
    refine zw_getS hw fl_RX8_11 h1 (by decide) ((kcG_nf (by omega)).trans ha.2.2.1) dX8_copyFrom_16 (fun i1 => ?_)
    refine z_iload2 dX8_copyFrom_19 ?_
    refine z_aload1 dX8_copyFrom_20 ?_
    refine zw_getS hw fl_RX8_11 h2 (by decide) ((kcG_nf (by omega)).trans hb.2.2.1) dX8_copyFrom_21 (fun i2 => ?_)
    refine z_iload2 dX8_copyFrom_24 ?_
    refine zw_aald (t' := 0) hw h4 (by decide) hb.2.1.1 (rfl : nI k = nI k) (by omega) (by decide) (fun _ => rfl) (by decide) dX8_copyFrom_25 (fun i3 => ?_)
    refine zw_aast (t' := 0) hw h3 (by decide) ha.2.1.1 (rfl : nI k = nI k) (by omega) (by decide) (fun _ => rfl) i3 dX8_copyFrom_26 (fun w4 => ?_)
    refine z_iinc2 (y := 1) dX8_copyFrom_27 (by decide) ?_
    refine z_goto (tgt := 10) dX8_copyFrom_30 (by decide) ?_
    have e : (kcG g (a + 1) (b + 1) k).2.2.2 (b + 1) k = g.2.2.2 (b + 1) k := kcG_nf (by omega)
    rw [e, kcG_s] at w4 ⊢
    rw [nI_1]
    exact ih (k + 1) (by omega) w4 kk
theorem RA.pk {b0 : Nat} {g : zG} {a : Nat} (h : RA b0 g a) : pA g (a + 4) 0 = a + 5 ∧ pA g (a + 4) 4 = a + 6 := ⟨pA_eq h.2.2.2.2.2.2.2.2.1, pA_eq h.2.2.2.2.2.2.2.2.2⟩
theorem RA.g {b0 : Nat} {g g' : zG} {a : Nat} (h : RA b0 g a) (h1 : g'.1 = g.1) (h2 : g'.2.1 = g.2.1) (h3 : g'.2.2.1 = g.2.2.1) (h4 : ∀ k, k ≠ 0 → k ≠ 4 → k ≠ 5 → g'.2.2.2 a k = g.2.2.2 a k) (h5 : g'.2.2.2 (a + 2) = g.2.2.2 (a + 2)) (h6 : g'.2.2.2 (a + 4) = g.2.2.2 (a + 4)) : RA b0 g' a := by
  have hz : ∀ x t, zIn b0 g x t → zIn b0 g' x t := fun x t q => ⟨q.1, by rw [h1]; exact q.2.1, by rw [h2]; exact q.2.2⟩
  obtain ⟨⟨a1, a2, a3, a4, a5, a6, a7, a8, a9⟩, ⟨l1, l2, l3, l4, l5, l6⟩, r1, r2, r3, r4, r5, r6, r7, r8⟩ := h
  refine ⟨⟨hz _ _ a1, hz _ _ a2, hz _ _ a3, hz _ _ a4, hz _ _ a5, hz _ _ a6, hz _ _ a7, hz _ _ a8, hz _ _ a9⟩, ?_, ?_⟩
  · rw [h3]; exact ⟨l1, l2, l3, l4, l5, l6⟩
  · rw [h4 1 (by decide) (by decide) (by decide), h4 8 (by decide) (by decide) (by decide), h4 9 (by decide) (by decide) (by decide), h4 10 (by decide) (by decide) (by decide), h4 12 (by decide) (by decide) (by decide), h5, h6]
    exact ⟨r1, r2, r3, r4, r5, r6, r7, r8⟩
/-! What a copy is, row by row. -/
theorem kled_1 {S : zSt} {a b : Nat} : (kled S a b).1 = S.1 := rfl
theorem cpyG_o {g : zG} {a b n x : Nat} (h : x ≠ a) (h1 : x ≠ a + 1) (h3 : x ≠ a + 3) : (cpyG g a b n).2.2.2 x = g.2.2.2 x := by
  unfold cpyG
  rw [kcG_ne h3]
  show zup (zup (kcG _ _ _ _).2.2.2 a 4 _) a 5 _ x = _
  rw [zup_r h, zup_r h, kcG_ne h1]
  exact zup_r h
theorem cpyG_a {g : zG} {a b n k : Nat} (hab : a + 9 ≤ b ∨ b + 9 ≤ a) : (cpyG g a b n).2.2.2 a k = if k = 0 ∨ k = 4 ∨ k = 5 then g.2.2.2 b k else g.2.2.2 a k := by
  unfold cpyG
  rw [kcG_ne (by omega)]
  show zup (zup (kcG (zpR g a 0 (g.2.2.2 b 0)) (a + 1) (b + 1) 4).2.2.2 a 4 _) a 5 _ a k = _
  have e4 : (kcG (zpR g a 0 (g.2.2.2 b 0)) (a + 1) (b + 1) 4).2.2.2 b 4 = g.2.2.2 b 4 := by rw [kcG_nf (by omega), zpR_nf (Or.inl (by omega))]
  have e5 : (zpR (kcG (zpR g a 0 (g.2.2.2 b 0)) (a + 1) (b + 1) 4) a 4 ((kcG (zpR g a 0 (g.2.2.2 b 0)) (a + 1) (b + 1) 4).2.2.2 b 4)).2.2.2 b 5 = g.2.2.2 b 5 := by rw [zpR_nf (Or.inl (by omega)), kcG_nf (by omega), zpR_nf (Or.inl (by omega))]
  rw [e4, e5] at *
  by_cases k5 : k = 5
  · subst k5; rw [zup_at, if_pos (by omega)]
  · rw [zup_ne _ _ _ _ (Or.inr k5)]
    by_cases k4 : k = 4
    · subst k4; rw [zup_at, if_pos (by omega)]
    · rw [zup_ne _ _ _ _ (Or.inr k4), kcG_nf (by omega)]
      by_cases k0 : k = 0
      · subst k0; rw [if_pos (by omega)]; exact zup_at _ _ _ _
      · rw [zpR_nf (Or.inr k0), if_neg (by omega)]
theorem cpyG_1 {g : zG} {a b n k : Nat} (hab : a + 9 ≤ b ∨ b + 9 ≤ a) : (cpyG g a b n).2.2.2 (a + 1) k = if k < 4 then g.2.2.2 (b + 1) k else g.2.2.2 (a + 1) k := by
  unfold cpyG
  rw [kcG_ne (by omega)]
  show zup (zup (kcG (zpR g a 0 (g.2.2.2 b 0)) (a + 1) (b + 1) 4).2.2.2 a 4 _) a 5 _ (a + 1) k = _
  rw [zup_r (by omega), zup_r (by omega)]
  show zu1 (zpR g a 0 (g.2.2.2 b 0)).2.2.2 (a + 1) _ (a + 1) k = _
  rw [zu1_at, zpR_nf (Or.inl (by omega)), zpR_nf (Or.inl (by omega))]
theorem cpyG_3 {g : zG} {a b n k : Nat} (hab : a + 9 ≤ b ∨ b + 9 ≤ a) : (cpyG g a b n).2.2.2 (a + 3) k = if k < n then g.2.2.2 (b + 3) k else g.2.2.2 (a + 3) k := by
  unfold cpyG
  rw [kcG_at]
  have e : ∀ y, y ≠ a → y ≠ a + 1 → (zpR (zpR (kcG (zpR g a 0 (g.2.2.2 b 0)) (a + 1) (b + 1) 4) a 4 ((kcG (zpR g a 0 (g.2.2.2 b 0)) (a + 1) (b + 1) 4).2.2.2 b 4)) a 5 ((zpR (kcG (zpR g a 0 (g.2.2.2 b 0)) (a + 1) (b + 1) 4) a 4 ((kcG (zpR g a 0 (g.2.2.2 b 0)) (a + 1) (b + 1) 4).2.2.2 b 4)).2.2.2 b 5)).2.2.2 y k = g.2.2.2 y k := by
    intro y h1 h2
    rw [zpR_nf (Or.inl h1), zpR_nf (Or.inl h1), kcG_nf h2, zpR_nf (Or.inl h1)]
  rw [e _ (by omega) (by omega), e _ (by omega) (by omega)]
theorem cpyG_z {g : zG} {a b n : Nat} : (cpyG g a b n).1 = g.1 ∧ (cpyG g a b n).2.1 = g.2.1 ∧ (cpyG g a b n).2.2.1 = g.2.2.1 := ⟨rfl, rfl, rfl⟩
theorem cpyF4_o {f : zI} {a b x : Nat} (h : x ≠ a) : cpyF4 f a b x = f x := by
  unfold cpyF4 cpyF3 cpyF2 cpyF1
  rw [zup_r h, zup_r h, zup_r h, zup_r h]
theorem cpyF5_o {f : zI} {a b x : Nat} (h : x ≠ a) (h2 : x ≠ a + 2) : cpyF5 f a b x = f x := by
  unfold cpyF5 kstF
  rw [zup_r h2, zup_r h2, cpyF4_o h]
set_option maxRecDepth 20000 in
set_option maxHeartbeats 800000 in
theorem K_X8_copyFrom {l : Launch} {d : Nat} {D : zD} {b0 : Nat} {g : zG} {f : zI} (hw : zOK b0 zNo g) (a b n : Nat) (ha : RA b0 g a) (hb : RA b0 g b) (hab : a + 9 ≤ b ∨ b + 9 ≤ a) (hn : f (b + 2) 1 = nI n) (hn1 : n ≤ 100) (h1 : iv 1001 (f (b + 4) 1)) (h5 : iv 1001 (f (b + 4) 5)) (hd : 2 ≤ d) : zM l d D b0 mX8_copyFrom [.ref a, .ref b] g f (zCx b0 zNo g none (cpyG g a b n, cpyF (cpyG g a b n) f a b) 0 0) := by
  have hn4 : cpyF4 f a b (b + 2) 1 = nI n := by rw [cpyF4_o (by omega)]; exact hn
  have hl1 : iv 1001 (cpyF5 f a b (b + 4) 1) := by rw [cpyF5_o (by omega) (by omega)]; exact h1
  have hl5 : iv 1001 (cpyF5 f a b (b + 4) 5) := by rw [cpyF5_o (by omega) (by omega)]; exact h5
  refine zM.start zmd_X8_copyFrom (Nat.le_of_ble_eq_true rfl) ⟨rfl, rfl, trivial⟩ [some (.ref a), some (.ref b), none] rfl ?_
  refine z_aload0 dX8_copyFrom_0 ?_
  refine z_aload1 dX8_copyFrom_1 ?_
  refine zw_getN hw fl_RX8_49 hb.1.1 (by decide) dX8_copyFrom_2 (fun i1 => ?_)
  refine zw_putR hw fl_RX8_49 (by decide) (Or.inl ⟨_, rfl⟩) ha.1.1 i1 (by decide) dX8_copyFrom_5 (fun w1 => ?_)
  have ha1 : RA b0 (zpR g a 0 (g.2.2.2 b 0)) a := ha.g rfl rfl rfl (fun k k1 _ _ => zpR_nf (Or.inr k1)) (zup_r (by omega)) (zup_r (by omega))
  have hb1 : RA b0 (zpR g a 0 (g.2.2.2 b 0)) b := hb.g rfl rfl rfl (fun k k1 _ _ => zpR_nf (Or.inl (by omega))) (zup_r (by omega)) (zup_r (by omega))
  refine z_iconst (v := 0) dX8_copyFrom_8 (by decide) ?_
  refine z_istore2 dX8_copyFrom_9 ?_
  have hw0 := w1
  rw [← kcG_0 (zpR g a 0 (g.2.2.2 b 0)) (a + 1) (b + 1)] at hw0
  have q := Kl_X8_copyFrom (l := l) (d := d) (D := D) (f := f) a b ha1 hb1 hab (zq D b0 (zCx b0 zNo g none (cpyG g a b n, cpyF (cpyG g a b n) f a b) 0 0)) 4 0 (by omega) hw0
  rw [kcG_0 (zpR g a 0 (g.2.2.2 b 0)) (a + 1) (b + 1)] at q
  refine q (fun x2 w2 => ?_)
  show zS _ _ _ _ _ _ _ 33 _ _ _ _ _
  refine z_aload0 dX8_copyFrom_33 ?_
  refine z_aload1 dX8_copyFrom_34 ?_
  refine z_getI fl_RX8_17 hb.1.1 dX8_copyFrom_35 ?_
  refine z_putI fl_RX8_17 ha.1.1 dX8_copyFrom_38 ?_
  refine z_aload0 dX8_copyFrom_41 ?_
  refine z_aload1 dX8_copyFrom_42 ?_
  refine z_getI fl_RX8_53 hb.1.1 dX8_copyFrom_43 ?_
  refine z_putI fl_RX8_53 ha.1.1 dX8_copyFrom_46 ?_
  refine z_aload0 dX8_copyFrom_49 ?_
  refine z_aload1 dX8_copyFrom_50 ?_
  refine zw_getN w2 fl_RX8_56 hb.1.1 (by decide) dX8_copyFrom_51 (fun i1 => ?_)
  show zS _ _ _ _ _ _ _ 54 _ _ _ _ _
  refine zw_putR w2 fl_RX8_56 (by decide) (Or.inl ⟨_, rfl⟩) ha.1.1 i1 (by decide) dX8_copyFrom_54 (fun w2 => ?_)
  refine z_aload0 dX8_copyFrom_57 ?_
  refine z_aload1 dX8_copyFrom_58 ?_
  refine zw_getN w2 fl_RX8_60 hb.1.1 (by decide) dX8_copyFrom_59 (fun i3 => ?_)
  refine zw_putR w2 fl_RX8_60 (by decide) (Or.inl ⟨_, rfl⟩) ha.1.1 i3 (by decide) dX8_copyFrom_62 (fun w4 => ?_)
  refine z_aload0 dX8_copyFrom_65 ?_
  refine z_aload1 dX8_copyFrom_66 ?_
  refine z_getI fl_RX8_64 hb.1.1 dX8_copyFrom_67 ?_
  refine z_putI fl_RX8_64 ha.1.1 dX8_copyFrom_70 ?_
  refine z_aload0 dX8_copyFrom_73 ?_
  refine z_aload1 dX8_copyFrom_74 ?_
  refine z_getI fl_RX8_67 hb.1.1 dX8_copyFrom_75 ?_
  show zS _ _ _ _ _ _ _ 78 _ _ _ _ _
  refine z_putI fl_RX8_67 ha.1.1 dX8_copyFrom_78 ?_
  refine z_aload0 dX8_copyFrom_81 ?_
  refine zw_getS w4 fl_RX8_24 ha.1.1 (by decide) (by (repeat first | rw [zpR_nf (by omega)] | rw [kcG_nf (by omega)]); exact ha.2.2.2.1) dX8_copyFrom_82 (fun i5 => ?_)
  refine z_aload1 dX8_copyFrom_85 ?_
  refine zw_getS w4 fl_RX8_24 hb.1.1 (by decide) (by (repeat first | rw [zpR_nf (by omega)] | rw [kcG_nf (by omega)]); exact hb.2.2.2.1) dX8_copyFrom_86 (fun i6 => ?_)
  refine z_callV zmd_X10_copyFrom rfl (by decide) zl_RX8_70 zin_X10_copyFrom zsel_X10_copyFrom (K_X10_copyFrom (d := d - 1) w4 _ _ (a + 3) (b + 3) n i5 i6 ha.1.2.2.2.1 hb.1.2.2.2.1 ha.2.1.2.1 hb.2.1.2.1 (by (repeat first | rw [zpR_nf (by omega)] | rw [kcG_nf (by omega)]); exact ha.2.2.2.2.2.2.2.1) (by (repeat first | rw [zpR_nf (by omega)] | rw [kcG_nf (by omega)]); exact hb.2.2.2.2.2.2.2.1) (by omega) hn4 hn1) i5 rfl rfl (by omega) rfl dX8_copyFrom_89 (fun r7 g7 f7 mc7 ms7 q7 => ?_)
  obtain ⟨rfl, rfl, rfl, hc7, hs7, w7, k7⟩ := q7
  refine z_aload0 dX8_copyFrom_92 ?_
  refine zw_getS w7 fl_RX8_31 (ha.1.1.le k7) (by decide) (by (repeat first | rw [zpR_nf (by omega)] | rw [kcG_nf (by omega)]); exact ha.2.2.2.2.1) dX8_copyFrom_93 (fun i8 => ?_)
  refine z_aload1 dX8_copyFrom_96 ?_
  refine zw_getS w7 fl_RX8_31 (hb.1.1.le k7) (by decide) (by (repeat first | rw [zpR_nf (by omega)] | rw [kcG_nf (by omega)]); exact hb.2.2.2.2.1) dX8_copyFrom_97 (fun i9 => ?_)
  refine z_callV zmd_X3_copyFrom rfl (by decide) zl_RX8_74 zin_X3_copyFrom zsel_X3_copyFrom (K_X3_copyFrom (d := d - 1) w7 _ _ i8 i9 hl1 hl5 (by omega)) i8 rfl rfl (by omega) rfl dX8_copyFrom_100 (fun r10 g10 f10 mc10 ms10 q10 => ?_)
  obtain ⟨rfl, rfl, rfl, hc10, hs10, w10, k10⟩ := q10
  show zS _ _ _ _ _ _ _ 103 _ _ (cpyG g a b n) _ _
  refine z_aload1 dX8_copyFrom_103 ?_
  show zS _ _ _ _ _ _ _ 104 _ _ _ _ _
  refine zw_getS w10 fl_RX8_35 ((hb.1.1.le k7).le k10) (by decide) ((congrFun (cpyG_o (by omega) (by omega) (by omega)) 10).trans hb.2.2.2.2.2.1) dX8_copyFrom_104 (fun i11 => ?_)
  refine z_iconst (v := 0) dX8_copyFrom_107 (by decide) ?_
  refine z_aload0 dX8_copyFrom_108 ?_
  refine zw_getS w10 fl_RX8_35 ((ha.1.1.le k7).le k10) (by decide) ((cpyG_a hab).trans ((if_neg (by omega)).trans ha.2.2.2.2.2.1)) dX8_copyFrom_109 (fun i12 => ?_)
  refine z_iconst (v := 0) dX8_copyFrom_112 (by decide) ?_
  refine z_bipush (v := 60) dX8_copyFrom_113 (by decide) ?_
  refine z_copy zl_RX8_77 znt_arraycopy zst_arraycopy zini_RJ10 hb.1.2.2.2.2.2.2.2.1 ha.1.2.2.2.2.2.2.2.1 (by decide) (by decide) (by decide) (Nat.le_of_eq (Eq.trans (by decide : _ = 60) (Eq.symm hb.2.1.2.2.2.2.1))) (Nat.le_of_eq (Eq.trans (by decide : _ = 60) (Eq.symm ha.2.1.2.2.2.2.1))) rfl (by omega) dX8_copyFrom_115 ?_
  refine z_aload0 dX8_copyFrom_118 ?_
  refine z_aload1 dX8_copyFrom_119 ?_
  refine z_getI fl_RX8_83 ((hb.1.1.le k7).le k10) dX8_copyFrom_120 ?_
  refine z_putI fl_RX8_83 ((ha.1.1.le k7).le k10) dX8_copyFrom_123 ?_
  refine z_aload1 dX8_copyFrom_126 ?_
  show zS _ _ _ _ _ _ _ 127 _ _ _ _ _
  refine zw_getS w10 fl_RX8_39 ((hb.1.1.le k7).le k10) (by decide) ((congrFun (cpyG_o (by omega) (by omega) (by omega)) 12).trans hb.2.2.2.2.2.2.1) dX8_copyFrom_127 (fun i13 => ?_)
  refine z_iconst (v := 0) dX8_copyFrom_130 (by decide) ?_
  refine z_aload0 dX8_copyFrom_131 ?_
  refine zw_getS w10 fl_RX8_39 ((ha.1.1.le k7).le k10) (by decide) ((cpyG_a hab).trans ((if_neg (by omega)).trans ha.2.2.2.2.2.2.1)) dX8_copyFrom_132 (fun i14 => ?_)
  refine z_iconst (v := 0) dX8_copyFrom_135 (by decide) ?_
  refine z_bipush (v := 6) dX8_copyFrom_136 (by decide) ?_
  refine z_copy zl_RX8_77 znt_arraycopy zst_arraycopy zini_RJ10 hb.1.2.2.2.2.2.2.2.2 ha.1.2.2.2.2.2.2.2.2 (by decide) (by decide) (by decide) (Nat.le_of_eq (Eq.trans (by decide : _ = 6) (Eq.symm hb.2.1.2.2.2.2.2))) (Nat.le_of_eq (Eq.trans (by decide : _ = 6) (Eq.symm ha.2.1.2.2.2.2.2))) rfl (by omega) dX8_copyFrom_138 ?_
  refine z_ret dX8_copyFrom_141 rfl ?_
  exact ⟨rfl, rfl, rfl, by omega, by omega, w10, ⟨Nat.le_refl _, fun _ _ => ⟨rfl, rfl⟩⟩⟩
