/-! The class's reader, over the block: a body; Arrays.copyOf. -/
theorem zOK.whole0 {b0 : Nat} {X : Nat → Prop} {g : zG} {r a0 a1 a2 : Nat} (h : zOK b0 (fun a => X a ∨ a = r) g) (hr : zIn b0 g r 0) (h0 : g.2.2.2 r 0 = some a0) (h1 : g.2.2.2 r 1 = some a1) (h2 : g.2.2.2 r 2 = some a2) : zOK b0 X g := by
  refine h.whole (fun a hX hn k1 k2 q hq hc => ?_)
  have e : a = r := hX.resolve_left hn
  subst e
  rw [hr.2.2] at hc
  have hq' : q = (0, 0, none) ∨ q = (0, 1, none) ∨ q = (0, 2, none) := (show ∀ q ∈ zSh, 0 = q.1 → q = (0, 0, none) ∨ q = (0, 1, none) ∨ q = (0, 2, none) by decide +kernel) q hq hc
  rcases hq' with rfl | rfl | rfl
  · exact ⟨a0, h0, fun n hn => by cases hn⟩
  · exact ⟨a1, h1, fun n hn => by cases hn⟩
  · exact ⟨a2, h2, fun n hn => by cases hn⟩
def kbod (S : zSt) (a x y : Nat) : zSt := uR (uR (uR (uN S 13 0) a 2 (some S.1.1)) a 0 (some x)) a 1 (some y)
set_option maxRecDepth 20000 in
theorem K_X0_init {l : Launch} {d : Nat} {D : zD} {b0 : Nat} {g : zG} {f : zI} {X : Nat → Prop} (hw : zOK b0 X g) (a x y : Nat) (ha : zIn b0 g a 0) (hX : X a) (hx : zIn b0 g x 1) (hy : zIn b0 g y 14) (hd : 1 ≤ d) : zM l d D b0 mX0_init [.ref a, .ref x, .ref y] g f (zCx b0 X g none (kbod (g, f) a x y) 1 0) := by
  refine zM.start zmd_X0_init (Nat.le_of_ble_eq_true rfl) ⟨rfl, rfl, rfl, trivial⟩ [some (.ref a), some (.ref x), some (.ref y)] rfl ?_
  refine z_aload0 dX0_init_0 ?_
  refine z_objInit zl_RX0_1 zin_objectInit zcd_objectInit rfl (by omega) dX0_init_1 ?_
  refine z_aload0 dX0_init_4 ?_
  refine z_iconst (v := 0) dX0_init_5 (by decide) ?_
  refine zw_newa hw (by decide) (N := 0) rfl (by decide) zac_int dX0_init_6 (fun w1 k1 i1 l1 => ?_)
  refine zw_putX (v := some _) w1 fl_RX0_7 (by decide) (Or.inr ⟨_, rfl⟩) (ha.le k1) (fun b hb => by cases hb; exact i1) hX dX0_init_8 (fun w2 => ?_)
  refine z_aload0 dX0_init_11 ?_
  refine z_aload1 dX0_init_12 ?_
  refine zw_putFXs w2 fl_RX0_13 (by decide) (Or.inl ⟨_, rfl⟩) rfl rfl (ha.le k1) (hx.le k1) (Or.inl hX) dX0_init_13 (fun w3 => ?_)
  refine z_aload0 dX0_init_16 ?_
  refine z_aload2 dX0_init_17 ?_
  show zS _ _ _ _ _ _ _ 18 _ _ _ _ _
  refine zw_putFXs w3 fl_RX0_17 (by decide) (Or.inr ⟨_, rfl⟩) rfl rfl (ha.le k1) (hy.le k1) (Or.inl hX) dX0_init_18 (fun w4 => ?_)
  refine z_ret dX0_init_21 rfl ?_
  exact ⟨rfl, rfl, rfl, by omega, by omega, w4, k1⟩
def dbG (g : zG) (a x y : Nat) : zG := zpR (zpR (zpR (znG g 13 0) a 2 (some g.1)) a 0 (some x)) a 1 (some y)
theorem dbG_cv {c : Nat} {g : zG} {f C : zI} {R : zRf} {a x y : Nat} (h : c + 27 ≤ g.1) (ho : ¬ (c ≤ a ∧ a < c + 27)) : kbod (gv c g R, cv c f C) a x y = (gv c (dbG g a x y) R, cv c (znI g f) C) := by
  unfold kbod dbG uR uN
  simp only
  rw [gv_new h, cv_new h, gv_stD ho, gv_stD ho, gv_stD ho]
  rfl
theorem dbG_le (g : zG) (a x y : Nat) : zLe g (dbG g a x y) := zLe.new g 13 0
theorem B_X0_init {l : Launch} {d : Nat} {D : zD} {b0 : Nat} {g : zG} {f C : zI} {R : zRf} {c : Nat} {X : Nat → Prop} (hW : CW b0 g c) (hw : zOK b0 X (gv c g R)) (a x y : Nat) (ho : ¬ (c ≤ a ∧ a < c + 27)) (ha : zIn b0 g a 0) (hX : X a) (hx : zIn b0 g x 1) (hy : zIn b0 g y 14) (hd : 1 ≤ d) : zM l d D b0 mX0_init [.ref a, .ref x, .ref y] (gv c g R) (cv c f C) (zCy b0 X c g none (dbG g a x y) R (znI g f) C 1 0) := by
  have K := K_X0_init (l := l) (d := d) (D := D) (f := cv c f C) hw a x y ha.gv hX hx.gv hy.gv hd
  rw [dbG_cv hW.2.1 ho] at K
  exact zM.mono K (fun r' g' f' mc ms h => by
    obtain ⟨h1, h2, h3, h4, h5, h6, h7⟩ := h
    refine ⟨h1, h2, h3, h4, h5, ?_, dbG_le g a x y, hW.le (dbG_le g a x y)⟩
    rw [h2] at h6
    exact h6)
/-- an array of references: n places, the first k of them those of r -/
def arG (g : zG) (t : Nat) (r : Nat → Option Nat) (n k : Nat) : zG := ((znG g t n).1, (znG g t n).2.1, (znG g t n).2.2.1, zu1 (znG g t n).2.2.2 g.1 (fun i => if i < k then r i else none))
theorem arG_0 (g : zG) (t : Nat) (r : Nat → Option Nat) (n : Nat) : arG g t r n 0 = znG g t n := by
  refine Prod.ext rfl (Prod.ext rfl (Prod.ext rfl ?_))
  show zu1 (zu1 g.2.2.2 g.1 (fun _ => none)) g.1 (fun i => if i < 0 then r i else none) = zu1 g.2.2.2 g.1 (fun _ => none)
  funext b
  by_cases h : b = g.1
  · subst h
    rw [zu1_at, zu1_at]
    funext i
    rw [if_neg (Nat.not_lt_zero i)]
  · rw [zu1_ne _ _ _ h]
theorem arG_s (g : zG) (t : Nat) (r : Nat → Option Nat) (n k : Nat) : zpR (arG g t r n k) g.1 k (r k) = arG g t r n (k + 1) := by
  refine Prod.ext rfl (Prod.ext rfl (Prod.ext rfl ?_))
  show zup (zu1 _ g.1 _) g.1 k (r k) = zu1 _ g.1 _
  funext b i
  by_cases h : b = g.1
  · subst h
    rw [zu1_at]
    by_cases h2 : i = k
    · subst h2
      rw [zup_at, if_pos (Nat.lt_succ_self _)]
    · rw [zup_ne _ _ _ _ (Or.inr h2), zu1_at]
      by_cases h3 : i < k
      · rw [if_pos h3, if_pos (by omega)]
      · rw [if_neg h3, if_neg (by omega)]
  · rw [zup_ne _ _ _ _ (Or.inl h), zu1_ne _ _ _ h, zu1_ne _ _ _ h]
theorem arG_le (g : zG) (t : Nat) (r : Nat → Option Nat) (n k : Nat) : zLe (znG g t n) (arG g t r n k) := ⟨Nat.le_refl _, fun _ _ => ⟨rfl, rfl⟩⟩
theorem zXt.ar (g : zG) (t : Nat) (r : Nat → Option Nat) (n k : Nat) : zXt g (arG g t r n k) := ⟨(zLe.new g t n).tr (arG_le g t r n k), fun a ha => by
  show zu1 (zu1 g.2.2.2 g.1 _) g.1 _ a = _
  rw [zu1_ne _ _ _ (Nat.ne_of_lt ha), zu1_ne _ _ _ (Nat.ne_of_lt ha)]⟩
set_option maxRecDepth 20000 in
theorem Bl_X6_body {l : Launch} {d : Nat} {D : zD} {b0 : Nat} {g : zG} {f C : zI} {R : zRf} {c : Nat} (hW0 : CW b0 g c) (hF : CF c R) (n cs ns : Nat) (hct : C 2 1 = nI n) (hn1 : n ≤ 120) (Q : Nat → Nat → zKT → Prop) : ∀ (j k : Nat), k + j = n → zOK b0 zNo (gv c (arG g 14 (R 3) n k) R) → (∀ x2 : Int32, zOK b0 zNo (gv c (arG g 14 (R 3) n n) R) → zS l d D b0 mX6_body cs ns 33 [some (.ref (c + 2)), some (.ref g.1), some (.int x2)] [] (gv c (arG g 14 (R 3) n n) R) (cv c f C) Q) → zS l d D b0 mX6_body cs ns 10 [some (.ref (c + 2)), some (.ref g.1), some (.int (nI k))] [] (gv c (arG g 14 (R 3) n k) R) (cv c f C) Q := by
  have ho := hW0.newout
  have hr0 : zIn b0 (znG g 14 n) g.1 14 := zIn.self (Nat.le_trans hW0.1 (by have := hW0.2.1; omega))
  intro j
  induction j with
  | zero =>
    intro k hk hw2 kk
    obtain rfl : k = n := by omega
    have hW : CW b0 (arG g 14 (R 3) k k) c := hW0.le ((zLe.new g 14 k).tr (arG_le g 14 (R 3) k k))
    refine z_iload2 dX6_body_10 ?_
    refine z_aload0 dX6_body_11 ?_
    refine zc_getI (j := 2) hW fl_RX6_33 rfl dX6_body_12 ?_
    refine z_icmp_ge (tgt := 33) dX6_body_15 (by decide) (fun c6 => kk _ hw2) (fun c6 => absurd c6 (by rw [hct]; exact nI_nlt (by omega) (by omega)))
  | succ j ih =>
    intro k hk hw2 kk
    have hW : CW b0 (arG g 14 (R 3) n k) c := hW0.le ((zLe.new g 14 n).tr (arG_le g 14 (R 3) n k))
    have hr : zIn b0 (arG g 14 (R 3) n k) g.1 14 := hr0.le (arG_le g 14 (R 3) n k)
    have hn : (arG g 14 (R 3) n k).2.2.1 g.1 = n := zu1_at _ _ _
    show zS _ _ _ _ _ _ _ 10 _ _ _ _ _
    refine z_iload2 dX6_body_10 ?_
    refine z_aload0 dX6_body_11 ?_
    refine zc_getI (j := 2) hW fl_RX6_33 rfl dX6_body_12 ?_
    refine z_icmp_ge (tgt := 33) dX6_body_15 (by decide) (fun c15 => ?_) (fun c15 => ?_)
    · exact absurd (by rw [hct]; exact nI_lt (by omega) (by omega)) c15
    · show zS _ _ _ _ _ _ _ 18 _ _ _ _ _
      refine z_aload1 dX6_body_18 ?_
      refine z_iload2 dX6_body_19 ?_
      refine z_aload0 dX6_body_20 ?_
      refine zc_getF (j := 2) hW fl_RX6_11 rfl (by decide) (hF _ (List.mem_of_getElem? (i := 6) rfl)) dX6_body_21 ?_
      refine z_iload2 dX6_body_24 ?_
      refine zc_ald (j := 3) (t' := 1) hw2 hW rfl (by decide) (by decide) (rfl : nI k = nI k) (by omega) (fun _ => rfl) (by decide) dX6_body_25 (fun i1 => ?_)
      refine zd_ast (t' := 1) hw2 ho hr (by decide) hn (rfl : nI k = nI k) (by omega) (by first | decide | omega) (fun _ => rfl) i1 dX6_body_26 (fun w2 => ?_)
      refine z_iinc2 (y := 1) dX6_body_27 (by decide) ?_
      refine z_goto (tgt := 10) dX6_body_30 (by decide) ?_
      rw [nI_1]
      rw [arG_s] at w2 ⊢
      exact ih (k + 1) (by omega) w2 kk
/-- a body is made of what was read: n expressions -/
def bbdG (g : zG) (R : zRf) (n : Nat) : zG := dbG (znG (arG g 14 (R 3) n n) 0 0) (g.1 + 1) ((R 3 0).getD 0) g.1
def bbdF (g : zG) (R : zRf) (f : zI) (n : Nat) : zI := znI (znG (arG g 14 (R 3) n n) 0 0) (znI (arG g 14 (R 3) n n) (znI g f))
theorem bbdG_le (g : zG) (R : zRf) (n : Nat) : zLe g (bbdG g R n) := ((zLe.new g 14 n).tr (arG_le g 14 (R 3) n n)).tr ((zLe.new _ 0 0).tr (dbG_le _ _ _ _))
theorem dbG_f (g : zG) (a x y : Nat) : (dbG g a x y).2.2.2 a 0 = some x ∧ (dbG g a x y).2.2.2 a 1 = some y ∧ (dbG g a x y).2.2.2 a 2 = some g.1 := by
  refine ⟨?_, ?_, ?_⟩
  · show zup (zup (zup (znG g 13 0).2.2.2 a 2 (some g.1)) a 0 (some x)) a 1 (some y) a 0 = _
    rw [zup_ne _ _ _ _ (by omega), zup_at]
  · exact zup_at _ _ _ _
  · show zup (zup (zup (znG g 13 0).2.2.2 a 2 (some g.1)) a 0 (some x)) a 1 (some y) a 2 = _
    rw [zup_ne _ _ _ _ (by omega), zup_ne _ _ _ _ (by omega), zup_at]
set_option maxRecDepth 20000 in
set_option maxHeartbeats 400000 in
theorem B_X6_body {l : Launch} {d : Nat} {D : zD} {b0 : Nat} {g : zG} {f C : zI} {R : zRf} {c : Nat} (hW : CW b0 g c) (hF : CF c R) (hw : zOK b0 zNo (gv c g R)) (n : Nat) (hct : C 2 1 = nI n) (hn : n ≤ 120) (hr0 : R 3 0 = some ((R 3 0).getD 0)) (hd : 2 ≤ d) : zM l d D b0 mX6_body [.ref (c + 2)] (gv c g R) (cv c f C) (zCy b0 zNo c g (some (.ref (g.1 + 1))) (bbdG g R n) R (bbdF g R f n) C 3 (n + 3)) := by
  refine zM.start zmd_X6_body (Nat.le_of_ble_eq_true rfl) ⟨rfl, trivial⟩ [some (.ref (c + 2)), none, none] rfl ?_
  refine z_aload0 dX6_body_0 ?_
  refine zc_getI (j := 2) hW fl_RX6_33 rfl dX6_body_1 ?_
  refine zd_anew (t := 14) hw hW (by decide) (fun _ => rfl) (by decide) (by rw [hct]; exact nI_pos (by omega)) (N := n) (by rw [hct]; exact tn_nI (by omega)) (by omega) zc_RX6_9 dX6_body_4 (fun w1 k1 b1 i1 l1 => ?_)
  refine z_astore1 dX6_body_7 ?_
  refine z_iconst (v := 0) dX6_body_8 (by decide) ?_
  refine z_istore2 dX6_body_9 ?_
  have hw0 := w1
  rw [← arG_0 g 14 (R 3)] at hw0 ⊢
  refine Bl_X6_body hW hF n _ _ hct hn _ n 0 (by omega) hw0 (fun x2 hw2 => ?_)
  have hW2 : CW b0 (arG g 14 (R 3) n n) c := hW.le ((zLe.new g 14 n).tr (arG_le g 14 (R 3) n n))
  have hr : zIn b0 (arG g 14 (R 3) n n) g.1 14 := i1
  show zS _ _ _ _ _ _ _ 33 _ _ _ _ _
  refine zd_newX hw2 hW2 zcls_X0 zc_RX6_58 zi_RX0 zini_RX0 dX6_body_33 (fun w1 k1 b1 i1 => ?_)
  refine z_dup dX6_body_36 ?_
  refine z_aload0 dX6_body_37 ?_
  refine zc_getF (j := 2) b1 fl_RX6_11 rfl (by decide) (hF _ (List.mem_of_getElem? (i := 6) rfl)) dX6_body_38 ?_
  refine z_iconst (v := 0) dX6_body_41 (by decide) ?_
  refine zc_alds (j := 3) (t' := 1) w1 b1 rfl (by decide) (by decide) (ixC 0) (by decide) (fun _ => rfl) (by decide) hr0 dX6_body_42 (fun i2 => ?_)
  refine z_aload1 dX6_body_43 ?_
  refine z_callI zmd_X0_init rfl rfl zl_RX6_60 zin_X0_init (B_X0_init (d := d - 1) b1 w1 _ _ _ hW2.newout i1 (Or.inr rfl) i2 (hr.le k1) (by omega)) rfl rfl (by omega) rfl dX6_body_44 (fun r3 g3 f3 mc3 ms3 q3 => ?_)
  obtain ⟨rfl, rfl, rfl, hc3, hs3, w3, k3, b3⟩ := q3
  refine z_aret dX6_body_47 rfl ?_ (Or.inl ⟨_, rfl⟩)
  have ho2 : ¬ (c ≤ g.1 + 1 ∧ g.1 + 1 < c + 27) := hW2.newout
  obtain ⟨q0, q1, q2⟩ := dbG_f (znG (arG g 14 (R 3) n n) 0 0) (g.1 + 1) ((R 3 0).getD 0) g.1
  have hwf : zOK b0 zNo (gv c (bbdG g R n) R) := zOK.whole0 (r := g.1 + 1) w3 (i1.le k3) (by rw [gv_out ho2]; exact q0) (by rw [gv_out ho2]; exact q1) (by rw [gv_out ho2]; exact q2)
  exact ⟨rfl, rfl, rfl, by omega, by omega, hwf, bbdG_le g R n, b3⟩
theorem bbdG_in {b0 : Nat} {g : zG} {R : zRf} {c n : Nat} (hW : CW b0 g c) : zIn b0 (bbdG g R n) (g.1 + 1) 0 := by
  have h1 : zIn b0 (znG (arG g 14 (R 3) n n) 0 0) (g.1 + 1) 0 := zIn.self (Nat.le_trans hW.1 (by have := hW.2.1; show c ≤ g.1 + 1; omega))
  exact h1.le (dbG_le _ _ _ _)
/-- Arrays.copyOf of another length -/
def kcopyF (g : zG) (f : zI) (a n : Nat) : zI := zu1 (znI g f) g.1 (fun k => if k < n then f a k else 0)
set_option maxRecDepth 20000 in
theorem K_J7_copyOf {l : Launch} {d : Nat} {D : zD} {b0 : Nat} {g : zG} {f : zI} (hb : b0 ≤ g.1) (a n N : Nat) (ha : zIn b0 g a 13) (hn : g.2.2.1 a = N) (h1 : n < N) (h2 : N ≤ 1000000) (hd : 1 ≤ d) : zM l d D b0 mJ7_copyOf_59c91 [.ref a, .int (nI n)] g f (fun r' g' f' mc ms => r' = some (.ref g.1) ∧ g' = znG g 13 n ∧ f' = kcopyF g f a n ∧ mc ≤ 1 ∧ ms ≤ n) := by
  have hne : a ≠ g.1 := Nat.ne_of_lt ha.2.1
  have hmin : (if nI n < nI N then nI n else nI N) = nI n := if_pos (nI_lt h1 (by omega))
  have hmin2 : (if nI N < nI n then nI N else nI n) = nI n := if_neg (nI_nlt (by omega) (by omega))
  refine zM.start zmd_J7_copyOf_59c91 (Nat.le_of_ble_eq_true rfl) ⟨rfl, rfl, trivial⟩ [some (.ref a), some (.int (nI n)), none] rfl ?_
  refine z_iload1 dJ7_copyOf_59c91_0 ?_
  refine z_aload0 dJ7_copyOf_59c91_1 ?_
  refine z_alenN ha (by decide) hn dJ7_copyOf_59c91_2 ?_
  refine z_icmp_ne (tgt := 14) dJ7_copyOf_59c91_3 (by decide) (fun c3 => ?_) (fun c3 => absurd ((nI_eq (by omega) (by omega)).mp c3) (by omega))
  refine z_iload1 dJ7_copyOf_59c91_14 ?_
  refine z_newa (N := n) (nI_pos (by omega)) (nI_clamp (by omega)) (by omega) zac_int dJ7_copyOf_59c91_15 ?_
  have hi : zIn b0 (znG g 13 n) g.1 13 := zIn.self hb
  have hl : (znG g 13 n).2.2.1 g.1 = n := zu1_at _ _ _
  have ha2 : zIn b0 (znG g 13 n) a 13 := ha.le (zLe.new _ _ _)
  have hn2 : (znG g 13 n).2.2.1 a = N := (zLe.new g 13 n).len ha hn
  refine z_astore2 dJ7_copyOf_59c91_17 ?_
  refine z_aload0 dJ7_copyOf_59c91_18 ?_
  refine z_iconst (v := 0) dJ7_copyOf_59c91_19 (by decide) ?_
  refine z_aload2 dJ7_copyOf_59c91_20 ?_
  refine z_iconst (v := 0) dJ7_copyOf_59c91_21 (by decide) ?_
  refine z_aload0 dJ7_copyOf_59c91_22 ?_
  refine z_alenN ha2 (by decide) hn2 dJ7_copyOf_59c91_23 ?_
  refine z_iload1 dJ7_copyOf_59c91_24 ?_
  refine z_min zl_RJ7_304 zst_J9_min_7cf53 zini_RJ9 zcd_J9_min_7cf53 rfl (by omega) dJ7_copyOf_59c91_25 ?_
  first | rw [hmin] | rw [hmin2]
  refine z_copy zl_RJ7_150 znt_arraycopy zst_arraycopy zini_RJ10 ha2 hi (by decide) (by decide) (nI_pos (by omega)) (by rw [hn2]; show 0 + tn (nI n) ≤ N; rw [tn_nI (by omega)]; omega) (by rw [hl]; show 0 + tn (nI n) ≤ n; rw [tn_nI (by omega)]; omega) rfl (by omega) dJ7_copyOf_59c91_28 ?_
  refine z_aload2 dJ7_copyOf_59c91_31 ?_
  refine z_aret dJ7_copyOf_59c91_32 rfl ?_ (Or.inr ⟨_, rfl⟩)
  refine ⟨rfl, rfl, ?_, by omega, by omega⟩
  unfold kcopyF
  congr 1
  funext k
  show (if (Int32.toNatClampNeg 0) ≤ k ∧ k < (Int32.toNatClampNeg 0) + (nI n).toNatClampNeg then znI g f a ((Int32.toNatClampNeg 0) + (k - (Int32.toNatClampNeg 0))) else znI g f g.1 k) = _
  rw [nI_clamp (by omega), show Int32.toNatClampNeg 0 = 0 from rfl, show znI g f a = f a from zu1_ne _ _ _ hne, show znI g f g.1 = fun _ => 0 from zu1_at _ _ _]
  by_cases h : k < n
  · rw [if_pos ⟨Nat.zero_le _, by omega⟩, if_pos h]
    congr 1
    omega
  · rw [if_neg (by omega), if_neg h]
