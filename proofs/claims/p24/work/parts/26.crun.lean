/-! The class's resumptions, scopes, expressions, and the search for a handler, over the block. -/
theorem CW.newout {b0 : Nat} {g : zG} {c : Nat} (h : CW b0 g c) : ¬ (c ≤ g.1 ∧ g.1 < c + 27) := fun q => by have := h.2.1; omega
section ZE
variable {l : Launch} {d : Nat} {D : zD} {b0 : Nat} {mi : zMI} {cs ns pc : Nat} {L : List (Option Value)} {st rest : List Value} {g : zG} {f C : zI} {R : zRf} {c : Nat} {Q : Nat → Nat → zKT → Prop} {X : Nat → Prop}
theorem zd_ald {a t j N t' : Nat} {e : Int32} (hw : zOK b0 X (gv c g R)) (ho : ¬ (c ≤ a ∧ a < c + 27)) (ha : zIn b0 g a t) (ht : 14 ≤ t ∧ t < 19) (hl : g.2.2.1 a = N) (he : e = nI j) (hj : j < N) (hN : N < 2 ^ 31) (hz : ∀ k, zty t k = t') (h9 : t' ≠ 99) (hd : decode mi.2.1 pc = .ok (.aaload, 1))
    (kk : (∀ b, g.2.2.2 a j = some b → zIn b0 g b t') → zS l d D b0 mi cs ns (pc + 1) L (va_rf (g.2.2.2 a j) :: st) (gv c g R) (cv c f C) Q) : zS l d D b0 mi cs ns pc L (.int e :: .ref a :: st) (gv c g R) (cv c f C) Q := by
  refine zw_aald hw ha.gv ht hl he hj hN hz h9 hd (fun h => ?_)
  rw [gv_out ho] at h ⊢
  exact kk h
theorem zd_alds {a t j N t' b : Nat} {e : Int32} (hw : zOK b0 X (gv c g R)) (ho : ¬ (c ≤ a ∧ a < c + 27)) (ha : zIn b0 g a t) (ht : 14 ≤ t ∧ t < 19) (hl : g.2.2.1 a = N) (he : e = nI j) (hj : j < N) (hN : N < 2 ^ 31) (hz : ∀ k, zty t k = t') (h9 : t' ≠ 99) (hb : g.2.2.2 a j = some b) (hd : decode mi.2.1 pc = .ok (.aaload, 1))
    (kk : zIn b0 g b t' → zS l d D b0 mi cs ns (pc + 1) L (.ref b :: st) (gv c g R) (cv c f C) Q) : zS l d D b0 mi cs ns pc L (.int e :: .ref a :: st) (gv c g R) (cv c f C) Q :=
  zw_aalds hw ha.gv ht hl he hj hN hz h9 (by rw [gv_out ho]; exact hb) hd kk
theorem zd_ast {a t j N t' : Nat} {e : Int32} {v : Option Nat} (hw : zOK b0 X (gv c g R)) (ho : ¬ (c ≤ a ∧ a < c + 27)) (ha : zIn b0 g a t) (ht : 14 ≤ t ∧ t < 19) (hl : g.2.2.1 a = N) (he : e = nI j) (hj : j < N) (hN : N < 2 ^ 31) (hz : ∀ k, zty t k = t') (hv : ∀ b, v = some b → zIn b0 g b t') (hd : decode mi.2.1 pc = .ok (.aastore, 1))
    (kk : zOK b0 X (gv c (zpR g a j v) R) → zS l d D b0 mi cs ns (pc + 1) L st (gv c (zpR g a j v) R) (cv c f C) Q) : zS l d D b0 mi cs ns pc L (va_rf v :: .int e :: .ref a :: st) (gv c g R) (cv c f C) Q := by
  refine zw_aast hw ha.gv ht hl he hj hN hz hv hd (fun h => ?_)
  rw [gv_stD ho] at h ⊢
  exact kk h
theorem zd_ald0 {a j N : Nat} {e : Int32} (ho : ¬ (c ≤ a ∧ a < c + 27)) (ha : zIn b0 g a 13) (hl : g.2.2.1 a = N) (he : e = nI j) (hj : j < N) (hN : N < 2 ^ 31) (hd : decode mi.2.1 pc = .ok (.iaload, 1))
    (kk : zS l d D b0 mi cs ns (pc + 1) L (.int (f a j) :: st) (gv c g R) (cv c f C) Q) : zS l d D b0 mi cs ns pc L (.int e :: .ref a :: st) (gv c g R) (cv c f C) Q := by
  refine z_ialdE ha.gv hl he hj hN hd ?_
  rw [cv_out ho]
  exact kk
end ZE
set_option maxRecDepth 20000 in
set_option maxHeartbeats 400000 in
theorem B_X3_newResumption {l : Launch} {d : Nat} {D : zD} {b0 : Nat} {g : zG} {f C : zI} {R : zRf} {c : Nat} (hW : CW b0 g c) (hF : CF c R) (hw : zOK b0 zNo (gv c g R)) (cp : Nat) (hc : zIn b0 g cp 15) (hd : 2 ≤ d) : zM l d D b0 mX3_newResumption [.ref (c + 17), .ref cp] (gv c g R) (cv c f C) (zCy b0 zNo c g (some (.ref g.1)) (dRes g cp) R (dResF g f (C 21 1)) (bnewRes C) 1 2) := by
  refine zM.start zmd_X3_newResumption (Nat.le_of_ble_eq_true rfl) ⟨rfl, rfl, trivial⟩ [some (.ref (c + 17)), some (.ref cp), none] rfl ?_
  refine zd_newX hw hW zcls_X7 zc_RX3_46 zi_RX7 zini_RX7 dX3_newResumption_0 (fun w1 k1 b1 i1 => ?_)
  refine z_dup dX3_newResumption_3 ?_
  refine z_aload0 dX3_newResumption_4 ?_
  refine zc_getI (j := 21) b1 fl_RX3_18 rfl dX3_newResumption_5 ?_
  refine z_aload1 dX3_newResumption_8 ?_
  refine z_callI zmd_X7_init rfl rfl zl_RX3_48 zin_X7_init (B_X7_init (d := d - 1) b1 w1 _ _ _ hW.newout i1 (Or.inr rfl) (hc.le k1) (by omega)) rfl rfl (by omega) rfl dX3_newResumption_9 (fun r2 g2 f2 mc2 ms2 q2 => ?_)
  obtain ⟨rfl, rfl, rfl, hc2, hs2, w2, k2, b2⟩ := q2
  have w9 : zOK b0 zNo (gv c (dRes g cp) R) := zOK.whole7 (g := gv c (dRes g cp) R) (r := g.1) (c := cp) w2 (show zIn b0 (gv c (dRes g cp) R) g.1 7 from i1) (by rw [gv_out hW.newout]; exact zup_at _ _ _ _)
  refine z_astore2 dX3_newResumption_12 ?_
  refine z_aload0 dX3_newResumption_13 ?_
  refine zc_getI (j := 21) b2 fl_RX3_18 rfl dX3_newResumption_14 ?_
  refine z_callSi zmd_X3_isPlace zl_RX3_51 zst_X3_isPlace (K_X3_isPlace (d := d - 1) _) rfl rfl (by omega) rfl dX3_newResumption_17 ?_
  refine z_if_eq (tgt := 33) dX3_newResumption_20 (by decide) (fun c20 => ?_) (fun c20 => ?_)
  · show zS _ _ _ _ _ _ _ 33 _ _ _ _ _
    try have hpl := kplace_f c20
    refine z_aload0 dX3_newResumption_33 ?_
    refine z_dup dX3_newResumption_34 ?_
    refine zc_getI (j := 21) b2 fl_RX3_18 rfl dX3_newResumption_35 ?_
    refine z_iconst (v := 1) dX3_newResumption_38 (by decide) ?_
    refine z_iadd dX3_newResumption_39 ?_
    refine zc_putI (j := 21) b2 fl_RX3_18 rfl dX3_newResumption_40 ?_
    refine z_aload2 dX3_newResumption_43 ?_
    refine z_aret dX3_newResumption_44 rfl ?_ (Or.inl ⟨_, rfl⟩)
    first
      | (rw [show bnewRes C = _ from congrArg (fun z : zI => zup z 21 1 (z 21 1 + 1)) (if_pos hpl)]; exact ⟨rfl, rfl, rfl, by omega, by omega, w9, (k1.tr k2), b2⟩)
      | (rw [show bnewRes C = _ from congrArg (fun z : zI => zup z 21 1 (z 21 1 + 1)) (if_neg hpl)]; exact ⟨rfl, rfl, rfl, by omega, by omega, w9, (k1.tr k2), b2⟩)
  · show zS _ _ _ _ _ _ _ 23 _ _ _ _ _
    have hpl := kplace_t c20
    have hpi := hpl.iv
    have hpi1 := hpi.1
    refine z_aload0 dX3_newResumption_23 ?_
    refine zc_getF (j := 21) b2 fl_RX3_9 rfl (by decide) (hF _ (List.mem_of_getElem? (i := 25) rfl)) dX3_newResumption_24 ?_
    refine z_aload0 dX3_newResumption_27 ?_
    refine zc_getI (j := 21) b2 fl_RX3_18 rfl dX3_newResumption_28 ?_
    refine z_iconst (v := 0) dX3_newResumption_31 (by decide) ?_
    refine zc_st (j := 22) b2 rfl (by decide) hpi.2 (by omega) dX3_newResumption_32 ?_
    try have hpl := kplace_f c20
    refine z_aload0 dX3_newResumption_33 ?_
    refine z_dup dX3_newResumption_34 ?_
    refine zc_getI (j := 21) b2 fl_RX3_18 rfl dX3_newResumption_35 ?_
    refine z_iconst (v := 1) dX3_newResumption_38 (by decide) ?_
    refine z_iadd dX3_newResumption_39 ?_
    show zS _ _ _ _ _ _ _ 40 _ _ _ _ _
    refine zc_putI (j := 21) b2 fl_RX3_18 rfl dX3_newResumption_40 ?_
    refine z_aload2 dX3_newResumption_43 ?_
    refine z_aret dX3_newResumption_44 rfl ?_ (Or.inl ⟨_, rfl⟩)
    first
      | (rw [show bnewRes C = _ from congrArg (fun z : zI => zup z 21 1 (z 21 1 + 1)) (if_pos hpl)]; exact ⟨rfl, rfl, rfl, by omega, by omega, w9, (k1.tr k2), b2⟩)
      | (rw [show bnewRes C = _ from congrArg (fun z : zI => zup z 21 1 (z 21 1 + 1)) (if_neg hpl)]; exact ⟨rfl, rfl, rfl, by omega, by omega, w9, (k1.tr k2), b2⟩)
/-- an array of frames: n places, the first k of them those of r from p on -/
def capG (g : zG) (r : Nat → Option Nat) (p n k : Nat) : zG := ((znG g 15 n).1, (znG g 15 n).2.1, (znG g 15 n).2.2.1, zu1 (znG g 15 n).2.2.2 g.1 (fun i => if i < k then r (p + i) else none))
theorem capG_0 (g : zG) (r : Nat → Option Nat) (p n : Nat) : capG g r p n 0 = znG g 15 n := by
  refine Prod.ext rfl (Prod.ext rfl (Prod.ext rfl ?_))
  show zu1 (zu1 g.2.2.2 g.1 (fun _ => none)) g.1 (fun i => if i < 0 then r (p + i) else none) = zu1 g.2.2.2 g.1 (fun _ => none)
  funext b
  by_cases h : b = g.1
  · subst h
    rw [zu1_at, zu1_at]
    funext i
    rw [if_neg (Nat.not_lt_zero i)]
  · rw [zu1_ne _ _ _ h]
theorem capG_s (g : zG) (r : Nat → Option Nat) (p n k : Nat) : zpR (capG g r p n k) g.1 k (r (p + k)) = capG g r p n (k + 1) := by
  refine Prod.ext rfl (Prod.ext rfl (Prod.ext rfl ?_))
  show zup (zu1 _ g.1 _) g.1 k (r (p + k)) = zu1 _ g.1 _
  funext b i
  by_cases h : b = g.1
  · subst h
    rw [zu1_at]
    by_cases h2 : i = k
    · subst h2
      rw [zup_at, if_pos (Nat.lt_succ_self _)]
    · rw [zup_ne _ _ _ _ (Or.inr h2), zu1_at]
      by_cases h3 : i < k
      · rw [if_pos h3, if_pos (by omega)]
      · rw [if_neg h3, if_neg (by omega)]
  · rw [zup_ne _ _ _ _ (Or.inl h), zu1_ne _ _ _ h, zu1_ne _ _ _ h]
theorem zmax0 {x : Int32} {n : Nat} (h : x = nI n) (hn : n < 2 ^ 31) : (if (0 : Int32) < x then x else 0) = nI n := by
  subst h
  rcases Nat.eq_zero_or_pos n with q | q
  · subst q; rfl
  · exact if_pos (nI_lt (a := 0) q hn)
set_option maxRecDepth 20000 in
theorem Bl_X10_popDownTo {l : Launch} {d : Nat} {D : zD} {b0 : Nat} {g : zG} {f C : zI} {R : zRf} {c : Nat} (hW0 : CW b0 g c) (hF : CF c R) (p n cs ns : Nat) (hp : p + n ≤ 100) (Q : Nat → Nat → zKT → Prop) : ∀ (j k : Nat), k + j = n → zOK b0 zNo (gv c (capG g (R 20) p n k) R) → (∀ x3 : Int32, zOK b0 zNo (gv c (capG g (R 20) p n n) R) → zS l d D b0 mX10_popDownTo cs ns 39 [some (.ref (c + 15)), some (.int (nI p)), some (.ref g.1), some (.int x3)] [] (gv c (capG g (R 20) p n n) R) (cv c f C) Q) → zS l d D b0 mX10_popDownTo cs ns 16 [some (.ref (c + 15)), some (.int (nI p)), some (.ref g.1), some (.int (nI k))] [] (gv c (capG g (R 20) p n k) R) (cv c f C) Q := by
  have ho := hW0.newout
  have hle : ∀ k, zLe (znG g 15 n) (capG g (R 20) p n k) := fun k => ⟨Nat.le_refl _, fun _ _ => ⟨rfl, rfl⟩⟩
  have hr0 : zIn b0 (znG g 15 n) g.1 15 := zIn.self (Nat.le_trans hW0.1 (by have := hW0.2.1; omega))
  intro j
  induction j with
  | zero =>
    intro k hk hw2 kk
    obtain rfl : k = n := by omega
    have hr : zIn b0 (capG g (R 20) p k k) g.1 15 := hr0.le (hle k)
    have hn : (capG g (R 20) p k k).2.2.1 g.1 = k := zu1_at _ _ _
    refine z_iload3 dX10_popDownTo_16 ?_
    refine z_aload2 dX10_popDownTo_17 ?_
    refine z_alenN hr (by decide) hn dX10_popDownTo_18 ?_
    refine z_icmp_ge (tgt := 39) dX10_popDownTo_19 (by decide) (fun c6 => kk _ hw2) (fun c6 => absurd c6 (nI_nlt (by omega) (by omega)))
  | succ j ih =>
    intro k hk hw2 kk
    have hW : CW b0 (capG g (R 20) p n k) c := hW0.le ((zLe.new g 15 n).tr (hle k))
    have hr : zIn b0 (capG g (R 20) p n k) g.1 15 := hr0.le (hle k)
    have hn : (capG g (R 20) p n k).2.2.1 g.1 = n := zu1_at _ _ _
    refine z_iload3 dX10_popDownTo_16 ?_
    refine z_aload2 dX10_popDownTo_17 ?_
    refine z_alenN hr (by decide) hn dX10_popDownTo_18 ?_
    refine z_icmp_ge (tgt := 39) dX10_popDownTo_19 (by decide) (fun c6 => absurd (nI_lt (by omega) (by omega)) c6) (fun c6 => ?_)
    show zS _ _ _ _ _ _ _ 22 _ _ _ _ _
    refine z_aload2 dX10_popDownTo_22 ?_
    refine z_iload3 dX10_popDownTo_23 ?_
    refine z_aload0 dX10_popDownTo_24 ?_
    refine zc_getF (j := 19) hW fl_RX10_11 rfl (by decide) (hF _ (List.mem_of_getElem? (i := 24) rfl)) dX10_popDownTo_25 ?_
    refine z_iload1 dX10_popDownTo_28 ?_
    refine z_iload3 dX10_popDownTo_29 ?_
    refine z_iadd dX10_popDownTo_30 ?_
    refine zc_ald (j := 20) (t' := 2) hw2 hW rfl (by decide) (by decide) (ixA (rfl : nI p = nI p) (rfl : nI k = nI k)) (by omega) (fun _ => rfl) (by decide) dX10_popDownTo_31 (fun i1 => ?_)
    refine zd_ast (t' := 2) hw2 ho hr (by decide) hn (rfl : nI k = nI k) (by omega) (by first | decide | omega) (fun _ => rfl) i1 dX10_popDownTo_32 (fun w2 => ?_)
    refine z_iinc3 (y := 1) dX10_popDownTo_33 (by decide) ?_
    refine z_goto (tgt := 16) dX10_popDownTo_36 (by decide) ?_
    rw [nI_1]
    rw [capG_s] at w2 ⊢
    exact ih (k + 1) (by omega) w2 kk
set_option maxRecDepth 20000 in
set_option maxHeartbeats 400000 in
theorem B_X10_popDownTo {l : Launch} {d : Nat} {D : zD} {b0 : Nat} {g : zG} {f C : zI} {R : zRf} {c : Nat} (hW : CW b0 g c) (hF : CF c R) (hw : zOK b0 zNo (gv c g R)) (p dp : Nat) (hdp : C 19 1 = nI dp) (h1 : p ≤ dp) (h2 : dp ≤ 100) (hd : 1 ≤ d) : zM l d D b0 mX10_popDownTo [.ref (c + 15), .int (nI p)] (gv c g R) (cv c f C) (zCy b0 zNo c g (some (.ref g.1)) (capG g (R 20) p (dp - p) (dp - p)) R (znI g f) (zup C 19 1 (C 19 1 - nI (dp - p))) 1 (dp - p)) := by
  refine zM.start zmd_X10_popDownTo (Nat.le_of_ble_eq_true rfl) ⟨rfl, rfl, trivial⟩ [some (.ref (c + 15)), some (.int (nI p)), none, none] rfl ?_
  refine z_iconst (v := 0) dX10_popDownTo_0 (by decide) ?_
  refine z_aload0 dX10_popDownTo_1 ?_
  refine zc_getI (j := 19) hW fl_RX10_17 rfl dX10_popDownTo_2 ?_
  refine z_iload1 dX10_popDownTo_5 ?_
  refine z_isub dX10_popDownTo_6 ?_
  refine z_max zl_RX10_24 zst_J9_max_7cf53 zini_RJ9 zcd_J9_max_7cf53 rfl (by omega) dX10_popDownTo_7 ?_
  rw [zmax0 (show C 19 1 - nI p = nI (dp - p) from ixS hdp rfl h1) (by omega)]
  refine zd_anew (t := 15) hw hW (by decide) (fun _ => rfl) (by decide) (nI_pos (by omega)) (nI_clamp (by omega)) (by omega) zc_RX10_9 dX10_popDownTo_10 (fun w1 k1 b1 i1 l1 => ?_)
  refine z_astore2 dX10_popDownTo_13 ?_
  refine z_iconst (v := 0) dX10_popDownTo_14 (by decide) ?_
  refine z_istore3 dX10_popDownTo_15 ?_
  have hw0 := w1
  rw [← capG_0 g (R 20) p] at hw0 ⊢
  refine Bl_X10_popDownTo hW hF p (dp - p) _ _ (by omega) _ (dp - p) 0 (by omega) hw0 (fun x3 hw2 => ?_)
  have hle : zLe g (capG g (R 20) p (dp - p) (dp - p)) := (zLe.new g 15 (dp - p)).tr ⟨Nat.le_refl _, fun _ _ => ⟨rfl, rfl⟩⟩
  have hW2 := hW.le hle
  have hr : zIn b0 (capG g (R 20) p (dp - p) (dp - p)) g.1 15 := i1
  have hn : (capG g (R 20) p (dp - p) (dp - p)).2.2.1 g.1 = dp - p := zu1_at _ _ _
  refine z_aload0 dX10_popDownTo_39 ?_
  refine z_dup dX10_popDownTo_40 ?_
  refine zc_getI (j := 19) hW2 fl_RX10_17 rfl dX10_popDownTo_41 ?_
  refine z_aload2 dX10_popDownTo_44 ?_
  refine z_alenN hr (by decide) hn dX10_popDownTo_45 ?_
  refine z_isub dX10_popDownTo_46 ?_
  refine zc_putI (j := 19) hW2 fl_RX10_17 rfl dX10_popDownTo_47 ?_
  refine z_aload2 dX10_popDownTo_50 ?_
  refine z_aret dX10_popDownTo_51 rfl ?_ (Or.inr ⟨_, rfl⟩)
  exact ⟨rfl, rfl, rfl, by omega, by omega, hw2, hle, hW2⟩
def eOK (g : zG) (c e : Nat) : Prop := (∀ b, g.2.2.2 e 5 = some b → g.2.2.1 b = 7 ∧ ¬ (c ≤ b ∧ b < c + 27)) ∧ (∀ b, g.2.2.2 e 6 = some b → g.2.2.1 b = 7 ∧ ¬ (c ≤ b ∧ b < c + 27))
def bclause (g : zG) (e : Nat) (x : Int32) : Option Nat := match g.2.2.2 e 5 with
  | none => none
  | some b => if ¬ x < 0 ∧ x < 7 then g.2.2.2 b (tn x) else none
def bclvar (g : zG) (f : zI) (e : Nat) (x : Int32) : Int32 := match g.2.2.2 e 6 with
  | none => 0
  | some b => if ¬ x < 0 ∧ x < 7 then f b (tn x) else 0
theorem kseven {x : Int32} (h1 : ¬ x < 0) (h2 : x < 7) : iv 7 x := by
  obtain ⟨j, q1, rfl⟩ := nI_of h1
  exact iv_nI ((nI_ltI (b := 7) q1 (by decide)).mp h2) (by decide)
set_option maxRecDepth 20000 in
set_option maxHeartbeats 400000 in
theorem B_X1_clause {l : Launch} {d : Nat} {D : zD} {b0 : Nat} {g : zG} {f C : zI} {R : zRf} {c : Nat} (hW : CW b0 g c) (hF : CF c R) (hw : zOK b0 zNo (gv c g R)) (e : Nat) (x : Int32) (hi : zIn b0 g e 1) (he : eOK g c e) : zM l d D b0 mX1_clause [.ref e, .int x] (gv c g R) (cv c f C) (zEx (some (va_rf (bclause g e x))) (gv c g R) (cv c f C)) := by
  refine zM.start zmd_X1_clause (Nat.le_of_ble_eq_true rfl) ⟨rfl, rfl, trivial⟩ [some (.ref e), some (.int x)] rfl ?_
  refine z_aload0 dX1_clause_0 ?_
  refine zd_getN hw hW fl_RX1_15 hi (by decide) (by decide) dX1_clause_1 (fun i1 => ?_)
  refine z_ifnull (tgt := 29) dX1_clause_4 (by decide) (fun c4 => ?_) (fun a4 c4 => ?_)
  · show zS _ _ _ _ _ _ _ 29 _ _ _ _ _
    refine z_null dX1_clause_29 ?_
    refine z_aret dX1_clause_30 rfl ?_ (Or.inl ⟨_, rfl⟩)
    first
      | (refine ⟨congrArg (fun z => some (va_rf z)) (show _ = bclause g e x from ?_), rfl, rfl, rfl, rfl⟩; first | (unfold bclause; rw [c4]; exact (if_pos ⟨by assumption, by assumption⟩).symm) | (unfold bclause; rw [c4]; exact (if_neg (fun q => absurd (by assumption) q.1)).symm) | (unfold bclause; rw [c4]; exact (if_neg (fun q => absurd q.2 (by assumption))).symm) | (unfold bclause; rw [c4]))
      | (refine ⟨congrArg (fun z => some (va_rf z)) (show none = bclause g e x from ?_), rfl, rfl, rfl, rfl⟩; first | (unfold bclause; rw [c4]; exact (if_pos ⟨by assumption, by assumption⟩).symm) | (unfold bclause; rw [c4]; exact (if_neg (fun q => absurd (by assumption) q.1)).symm) | (unfold bclause; rw [c4]; exact (if_neg (fun q => absurd q.2 (by assumption))).symm) | (unfold bclause; rw [c4]))
  · show zS _ _ _ _ _ _ _ 7 _ _ _ _ _
    have h7 := (he.1 _ c4).1
    have ho := (he.1 _ c4).2
    refine z_iload1 dX1_clause_7 ?_
    refine z_if_lt (tgt := 29) dX1_clause_8 (by decide) (fun c8 => ?_) (fun c8 => ?_)
    · show zS _ _ _ _ _ _ _ 29 _ _ _ _ _
      refine z_null dX1_clause_29 ?_
      refine z_aret dX1_clause_30 rfl ?_ (Or.inl ⟨_, rfl⟩)
      first
        | (refine ⟨congrArg (fun z => some (va_rf z)) (show _ = bclause g e x from ?_), rfl, rfl, rfl, rfl⟩; first | (unfold bclause; rw [c4]; exact (if_pos ⟨by assumption, by assumption⟩).symm) | (unfold bclause; rw [c4]; exact (if_neg (fun q => absurd (by assumption) q.1)).symm) | (unfold bclause; rw [c4]; exact (if_neg (fun q => absurd q.2 (by assumption))).symm) | (unfold bclause; rw [c4]))
        | (refine ⟨congrArg (fun z => some (va_rf z)) (show none = bclause g e x from ?_), rfl, rfl, rfl, rfl⟩; first | (unfold bclause; rw [c4]; exact (if_pos ⟨by assumption, by assumption⟩).symm) | (unfold bclause; rw [c4]; exact (if_neg (fun q => absurd (by assumption) q.1)).symm) | (unfold bclause; rw [c4]; exact (if_neg (fun q => absurd q.2 (by assumption))).symm) | (unfold bclause; rw [c4]))
    · show zS _ _ _ _ _ _ _ 11 _ _ _ _ _
      refine z_iload1 dX1_clause_11 ?_
      refine z_aload0 dX1_clause_12 ?_
      refine zd_getS hw hW fl_RX1_15 hi (by decide) (by decide) c4 dX1_clause_13 (fun i2 => ?_)
      refine z_alenN i2 (by decide) h7 dX1_clause_16 ?_
      refine z_icmp_ge (tgt := 29) dX1_clause_17 (by decide) (fun c17 => ?_) (fun c17 => ?_)
      · show zS _ _ _ _ _ _ _ 29 _ _ _ _ _
        refine z_null dX1_clause_29 ?_
        refine z_aret dX1_clause_30 rfl ?_ (Or.inl ⟨_, rfl⟩)
        first
          | (refine ⟨congrArg (fun z => some (va_rf z)) (show _ = bclause g e x from ?_), rfl, rfl, rfl, rfl⟩; first | (unfold bclause; rw [c4]; exact (if_pos ⟨by assumption, by assumption⟩).symm) | (unfold bclause; rw [c4]; exact (if_neg (fun q => absurd (by assumption) q.1)).symm) | (unfold bclause; rw [c4]; exact (if_neg (fun q => absurd q.2 (by assumption))).symm) | (unfold bclause; rw [c4]))
          | (refine ⟨congrArg (fun z => some (va_rf z)) (show none = bclause g e x from ?_), rfl, rfl, rfl, rfl⟩; first | (unfold bclause; rw [c4]; exact (if_pos ⟨by assumption, by assumption⟩).symm) | (unfold bclause; rw [c4]; exact (if_neg (fun q => absurd (by assumption) q.1)).symm) | (unfold bclause; rw [c4]; exact (if_neg (fun q => absurd q.2 (by assumption))).symm) | (unfold bclause; rw [c4]))
      · show zS _ _ _ _ _ _ _ 20 _ _ _ _ _
        have h77 := kseven c8 c17
        have h78 := h77.1
        refine z_aload0 dX1_clause_20 ?_
        refine zd_getS hw hW fl_RX1_15 hi (by decide) (by decide) c4 dX1_clause_21 (fun i3 => ?_)
        refine z_iload1 dX1_clause_24 ?_
        refine zd_ald (t' := 1) hw ho i3 (by decide) h7 h77.2 (by omega) (by first | decide | omega) (fun _ => rfl) (by decide) dX1_clause_25 (fun i4 => ?_)
        refine z_goto (tgt := 30) dX1_clause_26 (by decide) ?_
        show zS _ _ _ _ _ _ _ 30 _ _ _ _ _
        refine z_aret dX1_clause_30 rfl ?_ (Or.inl ⟨_, rfl⟩)
        first
          | (refine ⟨congrArg (fun z => some (va_rf z)) (show _ = bclause g e x from ?_), rfl, rfl, rfl, rfl⟩; first | (unfold bclause; rw [c4]; exact (if_pos ⟨by assumption, by assumption⟩).symm) | (unfold bclause; rw [c4]; exact (if_neg (fun q => absurd (by assumption) q.1)).symm) | (unfold bclause; rw [c4]; exact (if_neg (fun q => absurd q.2 (by assumption))).symm) | (unfold bclause; rw [c4]))
          | (refine ⟨congrArg (fun z => some (va_rf z)) (show none = bclause g e x from ?_), rfl, rfl, rfl, rfl⟩; first | (unfold bclause; rw [c4]; exact (if_pos ⟨by assumption, by assumption⟩).symm) | (unfold bclause; rw [c4]; exact (if_neg (fun q => absurd (by assumption) q.1)).symm) | (unfold bclause; rw [c4]; exact (if_neg (fun q => absurd q.2 (by assumption))).symm) | (unfold bclause; rw [c4]))
set_option maxRecDepth 20000 in
set_option maxHeartbeats 400000 in
theorem B_X1_clauseVariable {l : Launch} {d : Nat} {D : zD} {b0 : Nat} {g : zG} {f C : zI} {R : zRf} {c : Nat} (hW : CW b0 g c) (hF : CF c R) (hw : zOK b0 zNo (gv c g R)) (e : Nat) (x : Int32) (hi : zIn b0 g e 1) (he : eOK g c e) : zM l d D b0 mX1_clauseVariable [.ref e, .int x] (gv c g R) (cv c f C) (zEx (some (.int (bclvar g f e x))) (gv c g R) (cv c f C)) := by
  refine zM.start zmd_X1_clauseVariable (Nat.le_of_ble_eq_true rfl) ⟨rfl, rfl, trivial⟩ [some (.ref e), some (.int x)] rfl ?_
  refine z_aload0 dX1_clauseVariable_0 ?_
  refine zd_getN hw hW fl_RX1_19 hi (by decide) (by decide) dX1_clauseVariable_1 (fun i1 => ?_)
  refine z_ifnull (tgt := 29) dX1_clauseVariable_4 (by decide) (fun c4 => ?_) (fun a4 c4 => ?_)
  · show zS _ _ _ _ _ _ _ 29 _ _ _ _ _
    refine z_iconst (v := 0) dX1_clauseVariable_29 (by decide) ?_
    refine z_iret dX1_clauseVariable_30 rfl ?_
    refine ⟨congrArg (fun z => some (Value.int z)) ?_, rfl, rfl, rfl, rfl⟩
    first | (unfold bclvar; rw [c4]; exact (if_pos ⟨by assumption, by assumption⟩).symm) | (unfold bclvar; rw [c4]; exact (if_neg (fun q => absurd (by assumption) q.1)).symm) | (unfold bclvar; rw [c4]; exact (if_neg (fun q => absurd q.2 (by assumption))).symm) | (unfold bclvar; rw [c4])
  · show zS _ _ _ _ _ _ _ 7 _ _ _ _ _
    have h7 := (he.2 _ c4).1
    have ho := (he.2 _ c4).2
    refine z_iload1 dX1_clauseVariable_7 ?_
    refine z_if_lt (tgt := 29) dX1_clauseVariable_8 (by decide) (fun c8 => ?_) (fun c8 => ?_)
    · show zS _ _ _ _ _ _ _ 29 _ _ _ _ _
      refine z_iconst (v := 0) dX1_clauseVariable_29 (by decide) ?_
      refine z_iret dX1_clauseVariable_30 rfl ?_
      refine ⟨congrArg (fun z => some (Value.int z)) ?_, rfl, rfl, rfl, rfl⟩
      first | (unfold bclvar; rw [c4]; exact (if_pos ⟨by assumption, by assumption⟩).symm) | (unfold bclvar; rw [c4]; exact (if_neg (fun q => absurd (by assumption) q.1)).symm) | (unfold bclvar; rw [c4]; exact (if_neg (fun q => absurd q.2 (by assumption))).symm) | (unfold bclvar; rw [c4])
    · show zS _ _ _ _ _ _ _ 11 _ _ _ _ _
      refine z_iload1 dX1_clauseVariable_11 ?_
      refine z_aload0 dX1_clauseVariable_12 ?_
      refine zd_getS hw hW fl_RX1_19 hi (by decide) (by decide) c4 dX1_clauseVariable_13 (fun i2 => ?_)
      refine z_alenN i2 (by decide) h7 dX1_clauseVariable_16 ?_
      refine z_icmp_ge (tgt := 29) dX1_clauseVariable_17 (by decide) (fun c17 => ?_) (fun c17 => ?_)
      · show zS _ _ _ _ _ _ _ 29 _ _ _ _ _
        refine z_iconst (v := 0) dX1_clauseVariable_29 (by decide) ?_
        refine z_iret dX1_clauseVariable_30 rfl ?_
        refine ⟨congrArg (fun z => some (Value.int z)) ?_, rfl, rfl, rfl, rfl⟩
        first | (unfold bclvar; rw [c4]; exact (if_pos ⟨by assumption, by assumption⟩).symm) | (unfold bclvar; rw [c4]; exact (if_neg (fun q => absurd (by assumption) q.1)).symm) | (unfold bclvar; rw [c4]; exact (if_neg (fun q => absurd q.2 (by assumption))).symm) | (unfold bclvar; rw [c4])
      · show zS _ _ _ _ _ _ _ 20 _ _ _ _ _
        have h77 := kseven c8 c17
        have h78 := h77.1
        refine z_aload0 dX1_clauseVariable_20 ?_
        refine zd_getS hw hW fl_RX1_19 hi (by decide) (by decide) c4 dX1_clauseVariable_21 (fun i3 => ?_)
        refine z_iload1 dX1_clauseVariable_24 ?_
        refine zd_ald0 ho i3 h7 h77.2 (by omega) (by decide) dX1_clauseVariable_25 ?_
        refine z_goto (tgt := 30) dX1_clauseVariable_26 (by decide) ?_
        show zS _ _ _ _ _ _ _ 30 _ _ _ _ _
        refine z_iret dX1_clauseVariable_30 rfl ?_
        refine ⟨congrArg (fun z => some (Value.int z)) ?_, rfl, rfl, rfl, rfl⟩
        first | (unfold bclvar; rw [c4]; exact (if_pos ⟨by assumption, by assumption⟩).symm) | (unfold bclvar; rw [c4]; exact (if_neg (fun q => absurd (by assumption) q.1)).symm) | (unfold bclvar; rw [c4]; exact (if_neg (fun q => absurd q.2 (by assumption))).symm) | (unfold bclvar; rw [c4])
/-- the value of a variable, by the scopes from r on -/
def blook (g : zG) (f : zI) (x : Int32) : Nat → Option Nat → Int32
  | 0, _ => 0
  | _ + 1, none => 0
  | k + 1, some a => if f a 0 = x then f a 1 else blook g f x k (g.2.2.2 a 3)
def blookV (g : zG) (f : zI) (x : Int32) : Nat → Option Nat → Prop
  | 0, _ => False
  | _ + 1, none => True
  | k + 1, some a => f a 0 = x ∨ blookV g f x k (g.2.2.2 a 3)
def bresIn (g : zG) (r : Option Nat) : Option Nat := match r with
  | none => none
  | some a => g.2.2.2 a 2
set_option maxRecDepth 20000 in
theorem Bl_X9_lookUp {l : Launch} {d : Nat} {D : zD} {b0 : Nat} {g : zG} {f C : zI} {R : zRf} {c : Nat} (hW : CW b0 g c) (hF : CF c R) (hw : zOK b0 zNo (gv c g R)) (x : Int32) (y0 : Option Nat) : ∀ (k : Nat) (r : Option Nat), (∀ b, r = some b → zIn b0 g b 9) → blookV g f x k r → zS l d D b0 mX9_lookUp 0 0 2 [some (va_rf y0), some (.int x), some (va_rf r)] [] (gv c g R) (cv c f C) (zq D b0 (zEx (some (.int (blook g f x k r))) (gv c g R) (cv c f C))) := by
  intro k
  induction k with
  | zero => intro r hr hV; exact absurd hV id
  | succ k ih =>
    intro r hr hV
    cases r with
    | none =>
      refine z_aload2 dX9_lookUp_2 ?_
      refine z_ifnull (r := none) (tgt := 27) dX9_lookUp_3 (by decide) (fun c3 => ?_) (fun a c3 => by cases c3)
      refine z_iconst (v := 0) dX9_lookUp_27 (by decide) ?_
      refine z_iret dX9_lookUp_28 rfl ?_
      exact ⟨rfl, rfl, rfl, rfl, rfl⟩
    | some a =>
      have ha := hr a rfl
      refine z_aload2 dX9_lookUp_2 ?_
      refine z_ifnull (r := some a) (tgt := 27) dX9_lookUp_3 (by decide) (fun c3 => by cases c3) (fun a' c3 => ?_)
      show zS _ _ _ _ _ _ _ 6 _ _ _ _ _
      refine z_aload2 dX9_lookUp_6 ?_
      refine zd_getI hW fl_RX9_7 ha (by decide) dX9_lookUp_7 ?_
      refine z_iload1 dX9_lookUp_10 ?_
      refine z_icmp_ne (tgt := 19) dX9_lookUp_11 (by decide) (fun c11 => ?_) (fun c11 => ?_)
      · show zS _ _ _ _ _ _ _ 19 _ _ _ _ _
        refine z_aload2 dX9_lookUp_19 ?_
        refine zd_getN hw hW fl_RX9_20 ha (by decide) (by decide) dX9_lookUp_20 (fun i1 => ?_)
        refine z_astore2 dX9_lookUp_23 ?_
        refine z_goto (tgt := 2) dX9_lookUp_24 (by decide) ?_
        rw [show blook g f x (k + 1) (some a) = _ from if_neg c11]
        exact ih _ i1 (hV.resolve_left c11)
      · show zS _ _ _ _ _ _ _ 14 _ _ _ _ _
        refine z_aload2 dX9_lookUp_14 ?_
        refine zd_getI hW fl_RX9_13 ha (by decide) dX9_lookUp_15 ?_
        refine z_iret dX9_lookUp_18 rfl ?_
        refine ⟨congrArg (fun z => some (Value.int z)) ?_, rfl, rfl, rfl, rfl⟩
        exact (if_pos c11).symm
set_option maxRecDepth 20000 in
set_option maxHeartbeats 400000 in
theorem B_X9_lookUp {l : Launch} {d : Nat} {D : zD} {b0 : Nat} {g : zG} {f C : zI} {R : zRf} {c : Nat} (hW : CW b0 g c) (hF : CF c R) (hw : zOK b0 zNo (gv c g R)) (x : Int32) (r : Option Nat) (k : Nat) (hr : ∀ b, r = some b → zIn b0 g b 9) (hV : blookV g f x k r) : zM l d D b0 mX9_lookUp [va_rf r, .int x] (gv c g R) (cv c f C) (zEx (some (.int (blook g f x k r))) (gv c g R) (cv c f C)) := by
  refine zM.start zmd_X9_lookUp (Nat.le_of_ble_eq_true rfl) ⟨zcat_o _, rfl, trivial⟩ [some (va_rf r), some (.int x), none] rfl ?_
  refine z_aload0 dX9_lookUp_0 ?_
  refine z_astore2 dX9_lookUp_1 ?_
  exact Bl_X9_lookUp hW hF hw x r k r hr hV
set_option maxRecDepth 20000 in
set_option maxHeartbeats 400000 in
theorem B_X9_resumptionIn {l : Launch} {d : Nat} {D : zD} {b0 : Nat} {g : zG} {f C : zI} {R : zRf} {c : Nat} (hW : CW b0 g c) (hF : CF c R) (hw : zOK b0 zNo (gv c g R)) (r : Option Nat) (hr : ∀ b, r = some b → zIn b0 g b 9) : zM l d D b0 mX9_resumptionIn [va_rf r] (gv c g R) (cv c f C) (zEx (some (va_rf (bresIn g r))) (gv c g R) (cv c f C)) := by
  refine zM.start zmd_X9_resumptionIn (Nat.le_of_ble_eq_true rfl) ⟨zcat_o _, trivial⟩ [some (va_rf r)] rfl ?_
  refine z_aload0 dX9_resumptionIn_0 ?_
  refine z_ifnonnull (tgt := 8) dX9_resumptionIn_1 (by decide) (fun a1 c1 => ?_) (fun c1 => ?_)
  · show zS _ _ _ _ _ _ _ 8 _ _ _ _ _
    subst c1
    have ha := hr _ rfl
    refine z_aload0 dX9_resumptionIn_8 ?_
    refine zd_getN hw hW fl_RX9_16 ha (by decide) (by decide) dX9_resumptionIn_9 (fun i1 => ?_)
    refine z_aret dX9_resumptionIn_12 rfl ?_ (Or.inl ⟨_, rfl⟩)
    first | (subst c1; exact ⟨rfl, rfl, rfl, rfl, rfl⟩) | exact ⟨rfl, rfl, rfl, rfl, rfl⟩
  · show zS _ _ _ _ _ _ _ 4 _ _ _ _ _
    refine z_null dX9_resumptionIn_4 ?_
    refine z_goto (tgt := 12) dX9_resumptionIn_5 (by decide) ?_
    show zS _ _ _ _ _ _ _ 12 _ _ _ _ _
    refine z_aret dX9_resumptionIn_12 rfl ?_ (Or.inl ⟨_, rfl⟩)
    first | (subst c1; exact ⟨rfl, rfl, rfl, rfl, rfl⟩) | exact ⟨rfl, rfl, rfl, rfl, rfl⟩
theorem bresIn_in {b0 : Nat} {g : zG} {R : zRf} {c : Nat} {X : Nat → Prop} (hw : zOK b0 X (gv c g R)) (hW : CW b0 g c) {r : Option Nat} (hr : ∀ b, r = some b → zIn b0 g b 9) : ∀ b, bresIn g r = some b → zIn b0 g b 7 := by
  intro b hb
  cases r with
  | none => cases hb
  | some a =>
    have ha := hr a rfl
    exact hw.get (t := 9) (k := 2) ha.gv rfl (by decide) (by rw [gv_out (hW.out ha (by decide))]; exact hb)
