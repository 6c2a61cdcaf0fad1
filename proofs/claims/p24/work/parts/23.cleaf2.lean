/-! The class's ledger, scopes, stack and expressions, in literal form. -/
theorem zOK.whole7 {b0 : Nat} {X : Nat → Prop} {g : zG} {r c : Nat} (h : zOK b0 (fun a => X a ∨ a = r) g) (hr : zIn b0 g r 7) (hc : g.2.2.2 r 1 = some c) : zOK b0 X g := by
  refine h.whole (fun a h1 h2 _ _ q hq h3 => ?_)
  have e : a = r := h1.resolve_left h2
  subst e
  rw [hr.2.2] at h3
  have e2 : q = (7, 1, none) := (show ∀ q ∈ zSh, 7 = q.1 → q = (7, 1, none) by decide +kernel) q hq h3
  subst e2
  exact ⟨c, hc, fun n hn => by cases hn⟩
/-- a row of references is written anew -/
def krow (S : zSt) (a : Nat) (r : Nat → Option Nat) : zSt := ((S.1.1, S.1.2.1, S.1.2.2.1, zu1 S.1.2.2.2 a r), S.2)
/-- the first n references of row b from p on come to row a -/
def kcr (S : zSt) (a b p n : Nat) : zSt := krow S a (fun k => if k < n then S.1.2.2.2 b (p + k) else S.1.2.2.2 a k)
theorem kcr_0 (S : zSt) (a b p : Nat) : kcr S a b p 0 = S := by
  unfold kcr krow
  have e : zu1 S.1.2.2.2 a (fun k => if k < 0 then S.1.2.2.2 b (p + k) else S.1.2.2.2 a k) = S.1.2.2.2 := by
    funext c
    by_cases h : c = a
    · subst h
      rw [zu1_at]
      funext k
      rw [if_neg (Nat.not_lt_zero k)]
    · rw [zu1_ne _ _ _ h]
  rw [e]
theorem kcr_s (S : zSt) (a b p n : Nat) : zpR (kcr S a b p n).1 a n (S.1.2.2.2 b (p + n)) = (kcr S a b p (n + 1)).1 := by
  unfold kcr krow zpR
  refine Prod.ext rfl (Prod.ext rfl (Prod.ext rfl ?_))
  show zup (zu1 S.1.2.2.2 a _) a n _ = zu1 S.1.2.2.2 a _
  funext c k
  by_cases h : c = a
  · subst h
    rw [zu1_at]
    by_cases h2 : k = n
    · subst h2
      rw [zup_at, if_pos (Nat.lt_succ_self _)]
    · rw [zup_ne _ _ _ _ (Or.inr h2), zu1_at]
      by_cases h3 : k < n
      · rw [if_pos h3, if_pos (by omega)]
      · rw [if_neg h3, if_neg (by omega)]
  · rw [zup_ne _ _ _ _ (Or.inl h), zu1_ne _ _ _ h, zu1_ne _ _ _ h]
theorem kcr_r {S : zSt} {a b p n c : Nat} (h : c ≠ a) : (kcr S a b p n).1.2.2.2 c = S.1.2.2.2 c := zu1_ne _ _ _ h
theorem kcr_le (S : zSt) (a b p n : Nat) : zLe S.1 (kcr S a b p n).1 := ⟨Nat.le_refl _, fun _ _ => ⟨rfl, rfl⟩⟩
set_option maxRecDepth 20000 in
theorem K_X3_clear {l : Launch} {d : Nat} {D : zD} {b0 : Nat} {g : zG} {f : zI} (hw : zOK b0 zNo g) (a : Nat) (ha : zIn b0 g a 3) : zM l d D b0 mX3_clear [.ref a] g f (zCx b0 zNo g none (uI (uI (uI (uI (uI (g, f) a 1 0) a 2 0) a 3 0) a 5 0) a 6 0) 0 0) := by
  refine zM.start zmd_X3_clear (Nat.le_of_ble_eq_true rfl) ⟨rfl, trivial⟩ [some (.ref a)] rfl ?_
  refine z_aload0 dX3_clear_0 ?_
  refine z_iconst (v := 0) dX3_clear_1 (by decide) ?_
  refine z_putI fl_RX3_18 ha dX3_clear_2 ?_
  refine z_aload0 dX3_clear_5 ?_
  refine z_iconst (v := 0) dX3_clear_6 (by decide) ?_
  refine z_putI fl_RX3_22 ha dX3_clear_7 ?_
  refine z_aload0 dX3_clear_10 ?_
  refine z_iconst (v := 0) dX3_clear_11 (by decide) ?_
  refine z_putI fl_RX3_25 ha dX3_clear_12 ?_
  refine z_aload0 dX3_clear_15 ?_
  refine z_iconst (v := 0) dX3_clear_16 (by decide) ?_
  show zS _ _ _ _ _ _ _ 17 _ _ _ _ _
  refine z_putI fl_RX3_28 ha dX3_clear_17 ?_
  refine z_aload0 dX3_clear_20 ?_
  refine z_iconst (v := 0) dX3_clear_21 (by decide) ?_
  refine z_putI fl_RX3_31 ha dX3_clear_22 ?_
  refine z_ret dX3_clear_25 rfl ?_
  exact ⟨rfl, rfl, rfl, by omega, by omega, hw, zLe.rf⟩
def kcpI (S : zSt) (a b : Nat) (n : Int32) : zSt := uC S a (va_cpy (S.2 b) (S.2 a) (Int32.toNatClampNeg 0) (Int32.toNatClampNeg 0) n.toNatClampNeg)
def kled (S : zSt) (a b : Nat) : zSt :=
  let S1 := kcpI S (pA S.1 a 0) (pA S.1 b 0) (S.2 b 1)
  let S2 := kcpI S1 (pA S1.1 a 4) (pA S1.1 b 4) (S1.2 b 5)
  let S3 := uI S2 a 1 (S2.2 b 1)
  let S4 := uI S3 a 2 (S3.2 b 2)
  let S5 := uI S4 a 3 (S4.2 b 3)
  let S6 := uI S5 a 5 (S5.2 b 5)
  uI S6 a 6 (S6.2 b 6)
theorem zmin {x : Int32} (h : iv 1001 x) : (if (1000 : Int32) < x then 1000 else x) = x := if_neg (by
  rw [h.2]
  exact nI_nlt (b := tn x) (a := 1000) (by have := h.1; omega) (by decide))
set_option maxRecDepth 20000 in
theorem K_X3_copyFrom {l : Launch} {d : Nat} {D : zD} {b0 : Nat} {g : zG} {f : zI} (hw : zOK b0 zNo g) (a b : Nat) (ha : zIn b0 g a 3) (hb : zIn b0 g b 3) (h1 : iv 1001 (f b 1)) (h5 : iv 1001 (f b 5)) (hd : 1 ≤ d) : zM l d D b0 mX3_copyFrom [.ref a, .ref b] g f (zCx b0 zNo g none (kled (g, f) a b) 0 0) := by
  refine zM.start zmd_X3_copyFrom (Nat.le_of_ble_eq_true rfl) ⟨rfl, rfl, trivial⟩ [some (.ref a), some (.ref b)] rfl ?_
  refine z_aload1 dX3_copyFrom_0 ?_
  refine zw_getF (n := 1000) hw fl_RX3_9 hb (fun h => h) (by decide) (by decide) dX3_copyFrom_1 (fun e1 i1 l1 => ?_)
  refine z_iconst (v := 0) dX3_copyFrom_4 (by decide) ?_
  refine z_aload0 dX3_copyFrom_5 ?_
  refine zw_getF (n := 1000) hw fl_RX3_9 ha (fun h => h) (by decide) (by decide) dX3_copyFrom_6 (fun e2 i2 l2 => ?_)
  refine z_iconst (v := 0) dX3_copyFrom_9 (by decide) ?_
  refine z_aload1 dX3_copyFrom_10 ?_
  refine z_getI fl_RX3_18 hb dX3_copyFrom_11 ?_
  refine z_sipush (v := 1000) dX3_copyFrom_14 (by decide) ?_
  refine z_min zl_RX3_34 zst_J9_min_7cf53 zini_RJ9 zcd_J9_min_7cf53 rfl (by omega) dX3_copyFrom_17 ?_
  rw [zmin h1]
  refine z_copy zl_RX3_40 znt_arraycopy zst_arraycopy zini_RJ10 i1 i2 (by decide) (by decide) (by rw [h1.2]; exact nI_pos (by have := h1.1; omega)) (by rw [l1]; show 0 + tn _ ≤ 1000; have := h1.1; omega) (by rw [l2]; show 0 + tn _ ≤ 1000; have := h1.1; omega) rfl (by omega) dX3_copyFrom_20 ?_
  show zS _ _ _ _ _ _ _ 23 _ _ _ _ _
  refine z_aload1 dX3_copyFrom_23 ?_
  refine zw_getF (n := 1000) hw fl_RX3_15 hb (fun h => h) (by decide) (by decide) dX3_copyFrom_24 (fun e3 i3 l3 => ?_)
  refine z_iconst (v := 0) dX3_copyFrom_27 (by decide) ?_
  refine z_aload0 dX3_copyFrom_28 ?_
  refine zw_getF (n := 1000) hw fl_RX3_15 ha (fun h => h) (by decide) (by decide) dX3_copyFrom_29 (fun e4 i4 l4 => ?_)
  refine z_iconst (v := 0) dX3_copyFrom_32 (by decide) ?_
  refine z_aload1 dX3_copyFrom_33 ?_
  refine z_getI fl_RX3_28 hb dX3_copyFrom_34 ?_
  have hfb : (zu1 f (pA g a 0) (va_cpy (f (pA g b 0)) (f (pA g a 0)) (Int32.toNatClampNeg 0) (Int32.toNatClampNeg 0) (f b 1).toNatClampNeg) b) = f b := zu1_ne _ _ _ (hb.ne i2 (by decide))
  have h5b : iv 1001 (zu1 f (pA g a 0) (va_cpy (f (pA g b 0)) (f (pA g a 0)) (Int32.toNatClampNeg 0) (Int32.toNatClampNeg 0) (f b 1).toNatClampNeg) b 5) := by rw [hfb]; exact h5
  refine z_sipush (v := 1000) dX3_copyFrom_37 (by decide) ?_
  refine z_min zl_RX3_34 zst_J9_min_7cf53 zini_RJ9 zcd_J9_min_7cf53 rfl (by omega) dX3_copyFrom_40 ?_
  rw [zmin h5b]
  refine z_copy zl_RX3_40 znt_arraycopy zst_arraycopy zini_RJ10 i3 i4 (by decide) (by decide) (by rw [h5b.2]; exact nI_pos (by have := h5b.1; omega)) (by rw [l3]; show 0 + tn _ ≤ 1000; have := h5b.1; omega) (by rw [l4]; show 0 + tn _ ≤ 1000; have := h5b.1; omega) rfl (by omega) dX3_copyFrom_43 ?_
  refine z_aload0 dX3_copyFrom_46 ?_
  show zS _ _ _ _ _ _ _ 47 _ _ _ _ _
  refine z_aload1 dX3_copyFrom_47 ?_
  refine z_getI fl_RX3_18 hb dX3_copyFrom_48 ?_
  refine z_putI fl_RX3_18 ha dX3_copyFrom_51 ?_
  refine z_aload0 dX3_copyFrom_54 ?_
  refine z_aload1 dX3_copyFrom_55 ?_
  refine z_getI fl_RX3_22 hb dX3_copyFrom_56 ?_
  refine z_putI fl_RX3_22 ha dX3_copyFrom_59 ?_
  refine z_aload0 dX3_copyFrom_62 ?_
  refine z_aload1 dX3_copyFrom_63 ?_
  refine z_getI fl_RX3_25 hb dX3_copyFrom_64 ?_
  refine z_putI fl_RX3_25 ha dX3_copyFrom_67 ?_
  refine z_aload0 dX3_copyFrom_70 ?_
  show zS _ _ _ _ _ _ _ 71 _ _ _ _ _
  refine z_aload1 dX3_copyFrom_71 ?_
  refine z_getI fl_RX3_28 hb dX3_copyFrom_72 ?_
  refine z_putI fl_RX3_28 ha dX3_copyFrom_75 ?_
  refine z_aload0 dX3_copyFrom_78 ?_
  refine z_aload1 dX3_copyFrom_79 ?_
  refine z_getI fl_RX3_31 hb dX3_copyFrom_80 ?_
  refine z_putI fl_RX3_31 ha dX3_copyFrom_83 ?_
  refine z_ret dX3_copyFrom_86 rfl ?_
  exact ⟨rfl, rfl, rfl, by omega, by omega, hw, zLe.rf⟩
abbrev kplace (x : Int32) : Prop := ¬ x < 0 ∧ x < 1000
theorem kplace.iv {x : Int32} (h : kplace x) : iv 1000 x := by
  obtain ⟨j, h1, rfl⟩ := nI_of h.1
  exact iv_nI ((nI_ltI h1 (by decide)).mp h.2) (by decide)
theorem kplace_t {x : Int32} (h : ¬ zB (¬ x < 0 ∧ x < 1000) = 0) : kplace x := zB_t h
theorem kplace_f {x : Int32} (h : zB (¬ x < 0 ∧ x < 1000) = 0) : ¬ kplace x := zB_f h
def knewRes1 (S : zSt) (a c : Nat) : zSt := uR (uI (uN S 7 0) S.1.1 0 (znI S.1 S.2 a 1)) S.1.1 1 (some c)
/-- y in the place x of a row, where there is such a place -/
def kst (S : zSt) (a : Nat) (x y : Int32) : zSt := if ¬ x < 0 ∧ x < 1000 then uI S a (tn x) y else S
def knewRes (S : zSt) (a c : Nat) : zSt :=
  let S2 := knewRes1 S a c
  let S3 := kst S2 (pA S2.1 a 0) (S2.2 a 1) 0
  uI S3 a 1 (S3.2 a 1 + 1)
theorem kst_t {S : zSt} {a : Nat} {x y : Int32} (h : kplace x) : kst S a x y = uI S a (tn x) y := if_pos h
theorem kst_f {S : zSt} {a : Nat} {x y : Int32} (h : ¬ kplace x) : kst S a x y = S := if_neg h
theorem kst_1 (S : zSt) (a : Nat) (x y : Int32) : (kst S a x y).1 = S.1 := by
  unfold kst
  split <;> rfl
set_option maxRecDepth 20000 in
theorem K_X3_newResumption {l : Launch} {d : Nat} {D : zD} {b0 : Nat} {g : zG} {f : zI} (hw : zOK b0 zNo g) (a c : Nat) (ha : zIn b0 g a 3) (hc : zIn b0 g c 15) (hd : 2 ≤ d) : zM l d D b0 mX3_newResumption [.ref a, .ref c] g f (zCx b0 zNo g (some (.ref g.1)) (knewRes (g, f) a c) 1 2) := by
  refine zM.start zmd_X3_newResumption (Nat.le_of_ble_eq_true rfl) ⟨rfl, rfl, trivial⟩ [some (.ref a), some (.ref c), none] rfl ?_
  refine zw_newX hw zcls_X7 zc_RX3_46 zi_RX7 zini_RX7 dX3_newResumption_0 (fun w1 k1 i1 => ?_)
  refine z_dup dX3_newResumption_3 ?_
  refine z_aload0 dX3_newResumption_4 ?_
  refine z_getI fl_RX3_18 (ha.le k1) dX3_newResumption_5 ?_
  refine z_aload1 dX3_newResumption_8 ?_
  refine z_callI zmd_X7_init rfl rfl zl_RX3_48 zin_X7_init (K_X7_init (d := d - 1) w1 _ _ _ i1 (Or.inr rfl) (hc.le k1) (by omega)) rfl rfl (by omega) rfl dX3_newResumption_9 (fun r2 g2 f2 mc2 ms2 q2 => ?_)
  obtain ⟨rfl, rfl, rfl, hc2, hs2, w2, k2⟩ := q2
  have w9 : zOK b0 zNo (uR (uI (uN (g, f) 7 0) g.1 0 (znI g f a 1)) g.1 1 (some c)).1 := w2.whole7 ((i1.le k2)) (zup_at _ _ _ _)
  refine z_astore2 dX3_newResumption_12 ?_
  refine z_aload0 dX3_newResumption_13 ?_
  refine z_getI fl_RX3_18 ((ha.le k1).le k2) dX3_newResumption_14 ?_
  refine z_callSi zmd_X3_isPlace zl_RX3_51 zst_X3_isPlace (K_X3_isPlace (d := d - 1) _) rfl rfl (by omega) rfl dX3_newResumption_17 ?_
  refine z_if_eq (tgt := 33) dX3_newResumption_20 (by decide) (fun c20 => ?_) (fun c20 => ?_)
  · show zS _ _ _ _ _ _ _ 33 _ _ _ _ _
    try have hpl := kplace_f c20
    refine z_aload0 dX3_newResumption_33 ?_
    refine z_dup dX3_newResumption_34 ?_
    refine z_getI fl_RX3_18 ((ha.le k1).le k2) dX3_newResumption_35 ?_
    refine z_iconst (v := 1) dX3_newResumption_38 (by decide) ?_
    refine z_iadd dX3_newResumption_39 ?_
    refine z_putI fl_RX3_18 ((ha.le k1).le k2) dX3_newResumption_40 ?_
    refine z_aload2 dX3_newResumption_43 ?_
    refine z_aret dX3_newResumption_44 rfl ?_ (Or.inl ⟨_, rfl⟩)
    first
      | (rw [show knewRes (g, f) a c = _ from congrArg (fun z : zSt => uI z a 1 (z.2 a 1 + 1)) (if_pos hpl)]; exact ⟨rfl, rfl, rfl, by omega, by omega, w9, (k1.tr k2)⟩)
      | (rw [show knewRes (g, f) a c = _ from congrArg (fun z : zSt => uI z a 1 (z.2 a 1 + 1)) (if_neg hpl)]; exact ⟨rfl, rfl, rfl, by omega, by omega, w9, (k1.tr k2)⟩)
  · show zS _ _ _ _ _ _ _ 23 _ _ _ _ _
    have hpl := kplace_t c20
    have hpi := hpl.iv
    have hpi1 := hpi.1
    refine z_aload0 dX3_newResumption_23 ?_
    refine zw_getF (n := 1000) w9 fl_RX3_9 ((ha.le k1).le k2) (fun h => h) (by decide) (by decide) dX3_newResumption_24 (fun e4 i4 l4 => ?_)
    refine z_aload0 dX3_newResumption_27 ?_
    refine z_getI fl_RX3_18 ((ha.le k1).le k2) dX3_newResumption_28 ?_
    refine z_iconst (v := 0) dX3_newResumption_31 (by decide) ?_
    refine z_iastE i4 l4 hpi.2 (by omega) (by decide) dX3_newResumption_32 ?_
    try have hpl := kplace_f c20
    refine z_aload0 dX3_newResumption_33 ?_
    refine z_dup dX3_newResumption_34 ?_
    refine z_getI fl_RX3_18 ((ha.le k1).le k2) dX3_newResumption_35 ?_
    refine z_iconst (v := 1) dX3_newResumption_38 (by decide) ?_
    refine z_iadd dX3_newResumption_39 ?_
    show zS _ _ _ _ _ _ _ 40 _ _ _ _ _
    refine z_putI fl_RX3_18 ((ha.le k1).le k2) dX3_newResumption_40 ?_
    refine z_aload2 dX3_newResumption_43 ?_
    refine z_aret dX3_newResumption_44 rfl ?_ (Or.inl ⟨_, rfl⟩)
    first
      | (rw [show knewRes (g, f) a c = _ from congrArg (fun z : zSt => uI z a 1 (z.2 a 1 + 1)) (if_pos hpl)]; exact ⟨rfl, rfl, rfl, by omega, by omega, w9, (k1.tr k2)⟩)
      | (rw [show knewRes (g, f) a c = _ from congrArg (fun z : zSt => uI z a 1 (z.2 a 1 + 1)) (if_neg hpl)]; exact ⟨rfl, rfl, rfl, by omega, by omega, w9, (k1.tr k2)⟩)
def kuse (S : zSt) (a r : Nat) : zSt :=
  let S1 := uI S a 2 (S.2 a 2 + 1)
  if ¬ S1.2 r 0 < 0 ∧ S1.2 r 0 < 1000 then
    (let S2 := uI S1 (pA S1.1 a 0) (tn (S1.2 r 0)) (S1.2 (pA S1.1 a 0) (tn (S1.2 r 0)) + 1)
     if S2.2 (pA S2.1 a 0) (tn (S2.2 r 0)) = 2 then uI S2 a 3 (S2.2 a 3 + 1) else S2)
  else S1
set_option maxRecDepth 20000 in
theorem K_X3_use {l : Launch} {d : Nat} {D : zD} {b0 : Nat} {g : zG} {f : zI} (hw : zOK b0 zNo g) (a r : Nat) (ha : zIn b0 g a 3) (hr : zIn b0 g r 7) (hd : 1 ≤ d) : zM l d D b0 mX3_use [.ref a, .ref r] g f (zCx b0 zNo g none (kuse (g, f) a r) 0 0) := by
  refine zM.start zmd_X3_use (Nat.le_of_ble_eq_true rfl) ⟨rfl, rfl, trivial⟩ [some (.ref a), some (.ref r)] rfl ?_
  refine z_aload0 dX3_use_0 ?_
  refine z_dup dX3_use_1 ?_
  refine z_getI fl_RX3_22 ha dX3_use_2 ?_
  refine z_iconst (v := 1) dX3_use_5 (by decide) ?_
  refine z_iadd dX3_use_6 ?_
  refine z_putI fl_RX3_22 ha dX3_use_7 ?_
  refine z_aload1 dX3_use_10 ?_
  refine z_getI fl_RX3_55 hr dX3_use_11 ?_
  have hfr : ∀ v, zup f a 2 v r 0 = f r 0 := fun v => zup_ne _ _ _ _ (Or.inl (hr.ne ha (by decide)))
  refine z_callSi zmd_X3_isPlace zl_RX3_51 zst_X3_isPlace (K_X3_isPlace (d := d - 1) _) rfl rfl (by omega) rfl dX3_use_14 ?_
  refine z_if_eq (tgt := 56) dX3_use_17 (by decide) (fun c17 => ?_) (fun c17 => ?_)
  · show zS _ _ _ _ _ _ _ 56 _ _ _ _ _
    refine z_ret dX3_use_56 rfl ?_
    first
      | (rw [show kuse (g, f) a r = _ from (if_pos (kplace_t c17)).trans (if_pos c43)]; exact ⟨rfl, rfl, rfl, by omega, by omega, hw, zLe.rf⟩)
      | (rw [show kuse (g, f) a r = _ from (if_pos (kplace_t c17)).trans (if_neg c43)]; exact ⟨rfl, rfl, rfl, by omega, by omega, hw, zLe.rf⟩)
      | (rw [show kuse (g, f) a r = _ from if_neg (kplace_f c17)]; exact ⟨rfl, rfl, rfl, by omega, by omega, hw, zLe.rf⟩)
  · show zS _ _ _ _ _ _ _ 20 _ _ _ _ _
    have hpl := kplace_t c17
    have hpi := hpl.iv
    have hpi1 := hpi.1
    refine z_aload0 dX3_use_20 ?_
    refine zw_getF (n := 1000) hw fl_RX3_9 ha (fun h => h) (by decide) (by decide) dX3_use_21 (fun e2 i2 l2 => ?_)
    refine z_aload1 dX3_use_24 ?_
    refine z_getI fl_RX3_55 hr dX3_use_25 ?_
    refine z_dup2 dX3_use_28 ?_
    refine z_ialdE i2 l2 hpi.2 (by omega) (by decide) dX3_use_29 ?_
    refine z_iconst (v := 1) dX3_use_30 (by decide) ?_
    refine z_iadd dX3_use_31 ?_
    refine z_iastE i2 l2 hpi.2 (by omega) (by decide) dX3_use_32 ?_
    have hfr2 : ∀ v, zup (zup f a 2 (f a 2 + 1)) (pA g a 0) (tn (zup f a 2 (f a 2 + 1) r 0)) v r 0 = zup f a 2 (f a 2 + 1) r 0 := fun v => zup_ne _ _ _ _ (Or.inl (hr.ne i2 (by decide)))
    have hpi2 : iv 1000 (zup (zup f a 2 (f a 2 + 1)) (pA g a 0) (tn (zup f a 2 (f a 2 + 1) r 0)) (zup f a 2 (f a 2 + 1) (pA g a 0) (tn (zup f a 2 (f a 2 + 1) r 0)) + 1) r 0) := by rw [hfr2]; exact hpi
    have hpi3 := hpi2.1
    refine z_aload0 dX3_use_33 ?_
    refine zw_getF (n := 1000) hw fl_RX3_9 ha (fun h => h) (by decide) (by decide) dX3_use_34 (fun e3 i3 l3 => ?_)
    show zS _ _ _ _ _ _ _ 37 _ _ _ _ _
    refine z_aload1 dX3_use_37 ?_
    refine z_getI fl_RX3_55 hr dX3_use_38 ?_
    refine z_ialdE i3 l3 hpi2.2 (by omega) (by decide) dX3_use_41 ?_
    refine z_iconst (v := 2) dX3_use_42 (by decide) ?_
    refine z_icmp_ne (tgt := 56) dX3_use_43 (by decide) (fun c43 => ?_) (fun c43 => ?_)
    · show zS _ _ _ _ _ _ _ 56 _ _ _ _ _
      refine z_ret dX3_use_56 rfl ?_
      first
        | (rw [show kuse (g, f) a r = _ from (if_pos (kplace_t c17)).trans (if_pos c43)]; exact ⟨rfl, rfl, rfl, by omega, by omega, hw, zLe.rf⟩)
        | (rw [show kuse (g, f) a r = _ from (if_pos (kplace_t c17)).trans (if_neg c43)]; exact ⟨rfl, rfl, rfl, by omega, by omega, hw, zLe.rf⟩)
        | (rw [show kuse (g, f) a r = _ from if_neg (kplace_f c17)]; exact ⟨rfl, rfl, rfl, by omega, by omega, hw, zLe.rf⟩)
    · show zS _ _ _ _ _ _ _ 46 _ _ _ _ _
      refine z_aload0 dX3_use_46 ?_
      refine z_dup dX3_use_47 ?_
      refine z_getI fl_RX3_25 ha dX3_use_48 ?_
      refine z_iconst (v := 1) dX3_use_51 (by decide) ?_
      refine z_iadd dX3_use_52 ?_
      refine z_putI fl_RX3_25 ha dX3_use_53 ?_
      refine z_ret dX3_use_56 rfl ?_
      first
        | (rw [show kuse (g, f) a r = _ from (if_pos (kplace_t c17)).trans (if_pos c43)]; exact ⟨rfl, rfl, rfl, by omega, by omega, hw, zLe.rf⟩)
        | (rw [show kuse (g, f) a r = _ from (if_pos (kplace_t c17)).trans (if_neg c43)]; exact ⟨rfl, rfl, rfl, by omega, by omega, hw, zLe.rf⟩)
        | (rw [show kuse (g, f) a r = _ from if_neg (kplace_f c17)]; exact ⟨rfl, rfl, rfl, by omega, by omega, hw, zLe.rf⟩)
def kuses (S : zSt) (a : Nat) (r : Option Nat) : Int32 := match r with
  | none => 0
  | some b => if ¬ S.2 b 0 < 0 ∧ S.2 b 0 < 1000 then S.2 (pA S.1 a 0) (tn (S.2 b 0)) else 0
def kexecd (S : zSt) (a : Nat) (x : Int32) : Int32 := if ¬ x < 0 ∧ x < 1000 then S.2 (pA S.1 a 4) (tn x) else 0
def knewFin (S : zSt) (a : Nat) : zSt :=
  let S1 := kst S (pA S.1 a 4) (S.2 a 5) 0
  uI S1 a 5 (S1.2 a 5 + 1)
def kexec (S : zSt) (a : Nat) (x : Int32) : zSt :=
  let S1 := uI S a 6 (S.2 a 6 + 1)
  kst S1 (pA S1.1 a 4) x 1
set_option maxRecDepth 20000 in
theorem K_X3_usesOf {l : Launch} {d : Nat} {D : zD} {b0 : Nat} {g : zG} {f : zI} (hw : zOK b0 zNo g) (a : Nat) (r : Option Nat) (ha : zIn b0 g a 3) (hr : ∀ b, r = some b → zIn b0 g b 7) (hd : 1 ≤ d) : zM l d D b0 mX3_usesOf [.ref a, va_rf r] g f (zEx (some (.int (kuses (g, f) a r))) g f) := by
  refine zM.start zmd_X3_usesOf (Nat.le_of_ble_eq_true rfl) ⟨rfl, zcat_o _, trivial⟩ [some (.ref a), some (va_rf r)] rfl ?_
  refine z_aload1 dX3_usesOf_0 ?_
  refine z_ifnull (tgt := 26) dX3_usesOf_1 (by decide) (fun c1 => ?_) (fun a1 c1 => ?_)
  · show zS _ _ _ _ _ _ _ 26 _ _ _ _ _
    refine z_iconst (v := 0) dX3_usesOf_26 (by decide) ?_
    refine z_iret dX3_usesOf_27 rfl ?_
    refine ⟨congrArg (fun z => some (Value.int z)) ?_, rfl, rfl, rfl, rfl⟩
    first | (subst c1; rfl) | exact (if_pos (kplace_t c11)).symm | exact (if_neg (kplace_f c11)).symm
  · show zS _ _ _ _ _ _ _ 4 _ _ _ _ _
    subst c1
    have hb := hr _ rfl
    refine z_aload1 dX3_usesOf_4 ?_
    refine z_getI fl_RX3_55 hb dX3_usesOf_5 ?_
    refine z_callSi zmd_X3_isPlace zl_RX3_51 zst_X3_isPlace (K_X3_isPlace (d := d - 1) _) rfl rfl (by omega) rfl dX3_usesOf_8 ?_
    refine z_if_eq (tgt := 26) dX3_usesOf_11 (by decide) (fun c11 => ?_) (fun c11 => ?_)
    · show zS _ _ _ _ _ _ _ 26 _ _ _ _ _
      refine z_iconst (v := 0) dX3_usesOf_26 (by decide) ?_
      refine z_iret dX3_usesOf_27 rfl ?_
      refine ⟨congrArg (fun z => some (Value.int z)) ?_, rfl, rfl, rfl, rfl⟩
      first | (subst c1; rfl) | exact (if_pos (kplace_t c11)).symm | exact (if_neg (kplace_f c11)).symm
    · show zS _ _ _ _ _ _ _ 14 _ _ _ _ _
      have hpl := kplace_t c11
      have hpi := hpl.iv
      have hpi1 := hpi.1
      refine z_aload0 dX3_usesOf_14 ?_
      refine zw_getF (n := 1000) hw fl_RX3_9 ha (fun h => h) (by decide) (by decide) dX3_usesOf_15 (fun e2 i2 l2 => ?_)
      refine z_aload1 dX3_usesOf_18 ?_
      refine z_getI fl_RX3_55 hb dX3_usesOf_19 ?_
      refine z_ialdE i2 l2 hpi.2 (by omega) (by decide) dX3_usesOf_22 ?_
      refine z_goto (tgt := 27) dX3_usesOf_23 (by decide) ?_
      show zS _ _ _ _ _ _ _ 27 _ _ _ _ _
      refine z_iret dX3_usesOf_27 rfl ?_
      refine ⟨congrArg (fun z => some (Value.int z)) ?_, rfl, rfl, rfl, rfl⟩
      first | (subst c1; rfl) | exact (if_pos (kplace_t c11)).symm | exact (if_neg (kplace_f c11)).symm
set_option maxRecDepth 20000 in
theorem K_X3_executed {l : Launch} {d : Nat} {D : zD} {b0 : Nat} {g : zG} {f : zI} (hw : zOK b0 zNo g) (a : Nat) (x : Int32) (ha : zIn b0 g a 3) (hd : 1 ≤ d) : zM l d D b0 mX3_executed [.ref a, .int x] g f (zEx (some (.int (kexecd (g, f) a x))) g f) := by
  refine zM.start zmd_X3_executed (Nat.le_of_ble_eq_true rfl) ⟨rfl, rfl, trivial⟩ [some (.ref a), some (.int x)] rfl ?_
  refine z_iload1 dX3_executed_0 ?_
  refine z_callSi zmd_X3_isPlace zl_RX3_51 zst_X3_isPlace (K_X3_isPlace (d := d - 1) _) rfl rfl (by omega) rfl dX3_executed_1 ?_
  refine z_if_eq (tgt := 16) dX3_executed_4 (by decide) (fun c4 => ?_) (fun c4 => ?_)
  · show zS _ _ _ _ _ _ _ 16 _ _ _ _ _
    refine z_iconst (v := 0) dX3_executed_16 (by decide) ?_
    refine z_iret dX3_executed_17 rfl ?_
    refine ⟨congrArg (fun z => some (Value.int z)) ?_, rfl, rfl, rfl, rfl⟩
    first | exact (if_pos (kplace_t c4)).symm | exact (if_neg (kplace_f c4)).symm
  · show zS _ _ _ _ _ _ _ 7 _ _ _ _ _
    have hpl := kplace_t c4
    have hpi := hpl.iv
    have hpi1 := hpi.1
    refine z_aload0 dX3_executed_7 ?_
    refine zw_getF (n := 1000) hw fl_RX3_15 ha (fun h => h) (by decide) (by decide) dX3_executed_8 (fun e2 i2 l2 => ?_)
    refine z_iload1 dX3_executed_11 ?_
    refine z_ialdE i2 l2 hpi.2 (by omega) (by decide) dX3_executed_12 ?_
    refine z_goto (tgt := 17) dX3_executed_13 (by decide) ?_
    show zS _ _ _ _ _ _ _ 17 _ _ _ _ _
    refine z_iret dX3_executed_17 rfl ?_
    refine ⟨congrArg (fun z => some (Value.int z)) ?_, rfl, rfl, rfl, rfl⟩
    first | exact (if_pos (kplace_t c4)).symm | exact (if_neg (kplace_f c4)).symm
set_option maxRecDepth 20000 in
theorem K_X3_newFinalizer {l : Launch} {d : Nat} {D : zD} {b0 : Nat} {g : zG} {f : zI} (hw : zOK b0 zNo g) (a : Nat) (ha : zIn b0 g a 3) (hd : 1 ≤ d) : zM l d D b0 mX3_newFinalizer [.ref a] g f (zCx b0 zNo g (some (.int (f a 5))) (knewFin (g, f) a) 0 0) := by
  refine zM.start zmd_X3_newFinalizer (Nat.le_of_ble_eq_true rfl) ⟨rfl, trivial⟩ [some (.ref a), none] rfl ?_
  refine z_aload0 dX3_newFinalizer_0 ?_
  refine z_getI fl_RX3_28 ha dX3_newFinalizer_1 ?_
  refine z_istore1 dX3_newFinalizer_4 ?_
  refine z_iload1 dX3_newFinalizer_5 ?_
  refine z_callSi zmd_X3_isPlace zl_RX3_51 zst_X3_isPlace (K_X3_isPlace (d := d - 1) _) rfl rfl (by omega) rfl dX3_newFinalizer_6 ?_
  refine z_if_eq (tgt := 19) dX3_newFinalizer_9 (by decide) (fun c9 => ?_) (fun c9 => ?_)
  · show zS _ _ _ _ _ _ _ 19 _ _ _ _ _
    try have hpl := kplace_f c9
    refine z_aload0 dX3_newFinalizer_19 ?_
    refine z_dup dX3_newFinalizer_20 ?_
    refine z_getI fl_RX3_28 ha dX3_newFinalizer_21 ?_
    refine z_iconst (v := 1) dX3_newFinalizer_24 (by decide) ?_
    refine z_iadd dX3_newFinalizer_25 ?_
    refine z_putI fl_RX3_28 ha dX3_newFinalizer_26 ?_
    refine z_iload1 dX3_newFinalizer_29 ?_
    refine z_iret dX3_newFinalizer_30 rfl ?_
    first
      | (rw [show knewFin (g, f) a = _ from congrArg (fun z : zSt => uI z a 5 (z.2 a 5 + 1)) (if_pos hpl)]; exact ⟨rfl, rfl, rfl, by omega, by omega, hw, zLe.rf⟩)
      | (rw [show knewFin (g, f) a = _ from congrArg (fun z : zSt => uI z a 5 (z.2 a 5 + 1)) (if_neg hpl)]; exact ⟨rfl, rfl, rfl, by omega, by omega, hw, zLe.rf⟩)
  · show zS _ _ _ _ _ _ _ 12 _ _ _ _ _
    have hpl := kplace_t c9
    have hpi := hpl.iv
    have hpi1 := hpi.1
    refine z_aload0 dX3_newFinalizer_12 ?_
    refine zw_getF (n := 1000) hw fl_RX3_15 ha (fun h => h) (by decide) (by decide) dX3_newFinalizer_13 (fun e2 i2 l2 => ?_)
    refine z_iload1 dX3_newFinalizer_16 ?_
    refine z_iconst (v := 0) dX3_newFinalizer_17 (by decide) ?_
    refine z_iastE i2 l2 hpi.2 (by omega) (by decide) dX3_newFinalizer_18 ?_
    try have hpl := kplace_f c9
    refine z_aload0 dX3_newFinalizer_19 ?_
    refine z_dup dX3_newFinalizer_20 ?_
    refine z_getI fl_RX3_28 ha dX3_newFinalizer_21 ?_
    refine z_iconst (v := 1) dX3_newFinalizer_24 (by decide) ?_
    refine z_iadd dX3_newFinalizer_25 ?_
    refine z_putI fl_RX3_28 ha dX3_newFinalizer_26 ?_
    show zS _ _ _ _ _ _ _ 29 _ _ _ _ _
    refine z_iload1 dX3_newFinalizer_29 ?_
    refine z_iret dX3_newFinalizer_30 rfl ?_
    first
      | (rw [show knewFin (g, f) a = _ from congrArg (fun z : zSt => uI z a 5 (z.2 a 5 + 1)) (if_pos hpl)]; exact ⟨rfl, rfl, rfl, by omega, by omega, hw, zLe.rf⟩)
      | (rw [show knewFin (g, f) a = _ from congrArg (fun z : zSt => uI z a 5 (z.2 a 5 + 1)) (if_neg hpl)]; exact ⟨rfl, rfl, rfl, by omega, by omega, hw, zLe.rf⟩)
set_option maxRecDepth 20000 in
theorem K_X3_execute {l : Launch} {d : Nat} {D : zD} {b0 : Nat} {g : zG} {f : zI} (hw : zOK b0 zNo g) (a : Nat) (x : Int32) (ha : zIn b0 g a 3) (hd : 1 ≤ d) : zM l d D b0 mX3_execute [.ref a, .int x] g f (zCx b0 zNo g none (kexec (g, f) a x) 0 0) := by
  refine zM.start zmd_X3_execute (Nat.le_of_ble_eq_true rfl) ⟨rfl, rfl, trivial⟩ [some (.ref a), some (.int x)] rfl ?_
  refine z_aload0 dX3_execute_0 ?_
  refine z_dup dX3_execute_1 ?_
  refine z_getI fl_RX3_31 ha dX3_execute_2 ?_
  refine z_iconst (v := 1) dX3_execute_5 (by decide) ?_
  refine z_iadd dX3_execute_6 ?_
  refine z_putI fl_RX3_31 ha dX3_execute_7 ?_
  refine z_iload1 dX3_execute_10 ?_
  refine z_callSi zmd_X3_isPlace zl_RX3_51 zst_X3_isPlace (K_X3_isPlace (d := d - 1) _) rfl rfl (by omega) rfl dX3_execute_11 ?_
  refine z_if_eq (tgt := 24) dX3_execute_14 (by decide) (fun c14 => ?_) (fun c14 => ?_)
  · show zS _ _ _ _ _ _ _ 24 _ _ _ _ _
    try have hpl := kplace_f c14
    refine z_ret dX3_execute_24 rfl ?_
    first
      | (rw [show kexec (g, f) a x = _ from congrArg (fun z : zSt => z) (if_pos hpl)]; exact ⟨rfl, rfl, rfl, by omega, by omega, hw, zLe.rf⟩)
      | (rw [show kexec (g, f) a x = _ from congrArg (fun z : zSt => z) (if_neg hpl)]; exact ⟨rfl, rfl, rfl, by omega, by omega, hw, zLe.rf⟩)
  · show zS _ _ _ _ _ _ _ 17 _ _ _ _ _
    have hpl := kplace_t c14
    have hpi := hpl.iv
    have hpi1 := hpi.1
    refine z_aload0 dX3_execute_17 ?_
    refine zw_getF (n := 1000) hw fl_RX3_15 ha (fun h => h) (by decide) (by decide) dX3_execute_18 (fun e2 i2 l2 => ?_)
    refine z_iload1 dX3_execute_21 ?_
    refine z_iconst (v := 1) dX3_execute_22 (by decide) ?_
    refine z_iastE i2 l2 hpi.2 (by omega) (by decide) dX3_execute_23 ?_
    try have hpl := kplace_f c14
    refine z_ret dX3_execute_24 rfl ?_
    first
      | (rw [show kexec (g, f) a x = _ from congrArg (fun z : zSt => z) (if_pos hpl)]; exact ⟨rfl, rfl, rfl, by omega, by omega, hw, zLe.rf⟩)
      | (rw [show kexec (g, f) a x = _ from congrArg (fun z : zSt => z) (if_neg hpl)]; exact ⟨rfl, rfl, rfl, by omega, by omega, hw, zLe.rf⟩)
