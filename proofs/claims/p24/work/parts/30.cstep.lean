/-! The class's run: perform, resume, leaving a clause, over the block. -/
/-- G has g's cells as they are, and perhaps more -/
def zXt (g G : zG) : Prop := zLe g G ∧ ∀ a, a < g.1 → G.2.2.2 a = g.2.2.2 a
theorem zXt.rf {g : zG} : zXt g g := ⟨zLe.rf, fun _ _ => rfl⟩
theorem zXt.tr {g g1 g2 : zG} (h : zXt g g1) (k : zXt g1 g2) : zXt g g2 := ⟨h.1.tr k.1, fun a ha => (k.2 a (Nat.lt_of_lt_of_le ha h.1.1)).trans (h.2 a ha)⟩
theorem zXt.new (g : zG) (t n : Nat) : zXt g (znG g t n) := ⟨zLe.new _ _ _, fun a ha => zu1_ne _ _ _ (Nat.ne_of_lt ha)⟩
theorem zXt.res (g : zG) (cp : Nat) : zXt g (dRes g cp) := ⟨zLe.new _ _ _, fun a ha => by
  show zup (zu1 g.2.2.2 g.1 _) g.1 1 _ a = _
  rw [zup_r (Nat.ne_of_lt ha), zu1_ne _ _ _ (Nat.ne_of_lt ha)]⟩
theorem zXt.fr (g : zG) (e s r : Option Nat) : zXt g (dFr g e s r) := ⟨zLe.new _ _ _, fun a ha => dFr_r (Nat.ne_of_lt ha)⟩
theorem zXt.sc (g : zG) (r s : Option Nat) : zXt g (dSc g r s) := ⟨zLe.new _ _ _, fun a ha => dSc_r (Nat.ne_of_lt ha)⟩
theorem zXt.capG (g : zG) (r : Nat → Option Nat) (p n k : Nat) : zXt g (capG g r p n k) := ⟨(zLe.new g 15 n).tr ⟨Nat.le_refl _, fun _ _ => ⟨rfl, rfl⟩⟩, fun a ha => by
  show zu1 (zu1 g.2.2.2 g.1 _) g.1 _ a = _
  rw [zu1_ne _ _ _ (Nat.ne_of_lt ha), zu1_ne _ _ _ (Nat.ne_of_lt ha)]⟩
theorem zXt.cap (g : zG) (R : zRf) (f C : zI) (p n : Nat) : zXt g (bcap g R f C p n).1 := ((zXt.capG g (R 20) p n n).tr (zXt.res _ _)).tr (zXt.fr _ _ _ _)
theorem bcap_res {b0 : Nat} {g : zG} {R : zRf} {f C : zI} {p n c : Nat} (hW : CW b0 g c) : zIn b0 (bcap g R f C p n).1 (g.1 + 1) 7 := by
  have q : zIn b0 (dRes (capG g (R 20) p n n) g.1) (g.1 + 1) 7 := (zIn.self (n := 0) (Nat.le_trans hW.1 (by have := hW.2.1; show c ≤ g.1 + 1; omega)) : zIn b0 (znG (capG g (R 20) p n n) 7 0) (capG g (R 20) p n n).1 7)
  exact q.le (zXt.fr (dRes (capG g (R 20) p n n) g.1) none none (some (capG g (R 20) p n n).1)).1
theorem eOK.xt {b0 : Nat} {X : Nat → Prop} {g G : zG} {R : zRf} {c e : Nat} (h : eOK g c e) (hx : zXt g G) (hw : zOK b0 X (gv c g R)) (hW : CW b0 g c) (hi : zIn b0 g e 1) : eOK G c e := by
  have e1 := hx.2 e hi.2.1
  refine ⟨fun b hb => ?_, fun b hb => ?_⟩
  · rw [e1] at hb
    have hq : zIn b0 g b 14 := hw.get (t := 1) (k := 5) hi.gv rfl (by decide) (by rw [gv_out (hW.out hi (by decide))]; exact hb)
    exact ⟨(hx.1.2 b hq.2.1).2.trans (h.1 b hb).1, (h.1 b hb).2⟩
  · rw [e1] at hb
    have hq : zIn b0 g b 13 := hw.get (t := 1) (k := 6) hi.gv rfl (by decide) (by rw [gv_out (hW.out hi (by decide))]; exact hb)
    exact ⟨(hx.1.2 b hq.2.1).2.trans (h.2 b hb).1, (h.2 b hb).2⟩
theorem bphA_spec {g : zG} {f : zI} {r : Nat → Option Nat} {x : Int32} : ∀ (n : Nat) (m : Int32), bphA g f r x n m = -1 ∨ ∃ k, k < n ∧ bphA g f r x n m = nI k ∧ f ((r k).getD 0) 0 = 12 ∧ ¬ bclause g (pA g ((r k).getD 0) 1) x = none := by
  intro n
  induction n with
  | zero => intro m; exact Or.inl rfl
  | succ n ih =>
    intro m
    unfold bphA
    have up : ∀ m', (bphA g f r x n m' = -1 ∨ ∃ k, k < n ∧ bphA g f r x n m' = nI k ∧ f ((r k).getD 0) 0 = 12 ∧ ¬ bclause g (pA g ((r k).getD 0) 1) x = none) → (bphA g f r x n m' = -1 ∨ ∃ k, k < n + 1 ∧ bphA g f r x n m' = nI k ∧ f ((r k).getD 0) 0 = 12 ∧ ¬ bclause g (pA g ((r k).getD 0) 1) x = none) := by
      intro m' h
      rcases h with h | ⟨k, h1, h2⟩
      · exact Or.inl h
      · exact Or.inr ⟨k, by omega, h2⟩
    split
    · exact up _ (ih _)
    · split
      · rename_i h1 h2
        split
        · exact Or.inr ⟨n, Nat.lt_succ_self n, rfl, h2.1, h2.2⟩
        · exact up _ (ih _)
      · exact up _ (ih _)
def bpc (C : zI) (x : Int32) : zI := if ¬ x < 0 ∧ x < 6 then zup C 25 (tn x) (C 25 (tn x) + 1) else C
theorem bpc_r {C : zI} {x : Int32} {r : Nat} (h : r ≠ 25) : bpc C x r = C r := by
  unfold bpc
  split
  · exact zup_r h
  · rfl
def bperf (g : zG) (R : zRf) (f C : zI) (x : Int32) (dp : Nat) : bSt :=
  if bphA g f (R 20) x dp 0 < 0 then (g, R, f, zup (zup (bpc C x) 17 2 3) 17 7 x) else
    let p := tn (bphA g f (R 20) x dp 0)
    let h := (R 20 p).getD 0
    let e := pA g h 1
    let S := bcap g R f (bpc C x) p (dp - p)
    (dSc S.1 (some (g.1 + 1)) ((znG S.1 9 0).2.2.2 h 2), bgoTo S.2.1 (bclause S.1 e x) (some S.1.1), dScF S.1 S.2.2.1 (bclvar S.1 S.2.2.1 e x) (S.2.2.2 17 6), S.2.2.2)
theorem CF.perf {c : Nat} {g : zG} {R : zRf} {f C : zI} {x : Int32} {dp : Nat} (h : CF c R) : CF c (bperf g R f C x dp).2.1 := by
  unfold bperf
  split
  · exact h
  · exact h.cap.goTo
def bperfE (g : zG) (R : zRf) (f C : zI) (x : Int32) (dp : Nat) : bSt :=
  if bphA g f (R 20) x dp 0 < 0 then (g, R, f, zup (zup C 17 2 3) 17 7 x) else
    let S := bcap g R f C (tn (bphA g f (R 20) x dp 0)) (dp - tn (bphA g f (R 20) x dp 0))
    (dSc S.1 (some (g.1 + 1)) ((znG S.1 9 0).2.2.2 ((R 20 (tn (bphA g f (R 20) x dp 0))).getD 0) 2), bgoTo S.2.1 (bclause S.1 (pA g ((R 20 (tn (bphA g f (R 20) x dp 0))).getD 0) 1) x) (some S.1.1), dScF S.1 S.2.2.1 (bclvar S.1 S.2.2.1 (pA g ((R 20 (tn (bphA g f (R 20) x dp 0))).getD 0) 1) x) (S.2.2.2 17 6), S.2.2.2)
/-- the slots that perform costs -/
def bperfc (g : zG) (f : zI) (R : zRf) (x : Int32) (dp : Nat) : Nat := if bphA g f (R 20) x dp 0 < 0 then 0 else 111
theorem bperfE_eq (g : zG) (R : zRf) (f C : zI) (x : Int32) (dp : Nat) : bperf g R f C x dp = bperfE g R f (bpc C x) x dp := rfl
set_option maxRecDepth 20000 in
set_option maxHeartbeats 1000000 in
theorem Bt_X8_perform {l : Launch} {d : Nat} {D : zD} {b0 : Nat} {g : zG} {f C : zI} {R : zRf} {c : Nat} (hW : CW b0 g c) (hF : CF c R) (hw : zOK b0 zNo (gv c g R)) (x : Int32) (dp : Nat) (hdp : C 19 1 = nI dp) (h100 : dp ≤ 100) (hV : bphV g f c (R 20) dp) (hd : 4 ≤ d) : zS l d D b0 mX8_perform 0 0 17 [some (.ref (c + 13)), some (.int x), none, none, none, none] [] (gv c g R) (cv c f C) (zq D b0 (zCy b0 zNo c g none (bperfE g R f C x dp).1 (bperfE g R f C x dp).2.1 (bperfE g R f C x dp).2.2.1 (bperfE g R f C x dp).2.2.2 (min 4 (bperfc g f R x dp / 5)) (bperfc g f R x dp))) := by
  show zS _ _ _ _ _ _ _ 17 _ _ _ _ _
  refine z_aload0 dX8_perform_17 ?_
  refine zc_getF (j := 17) hW fl_RX8_24 rfl (by decide) (hF _ (List.mem_of_getElem? (i := 19) rfl)) dX8_perform_18 ?_
  refine z_iload1 dX8_perform_21 ?_
  refine z_callVi zmd_X10_placeOfHandler rfl (by decide) zl_RX8_249 zin_X10_placeOfHandler zsel_X10_placeOfHandler (B_X10_placeOfHandler (d := d - 1) hW hF hw _ dp hdp h100 hV (by omega)) (hW.i 19 rfl) rfl rfl (by omega) rfl dX8_perform_22 ?_
  refine z_istore2 dX8_perform_25 ?_
  refine z_iload2 dX8_perform_26 ?_
  refine z_if_ge (tgt := 41) dX8_perform_27 (by decide) (fun c27 => ?_) (fun c27 => ?_)
  · show zS _ _ _ _ _ _ _ 41 _ _ _ _ _
    have hsp := bphA_spec (g := g) (f := f) (r := R 20) (x := x) dp 0
    have hpp := hsp.resolve_left (fun q => absurd (by rw [q]; decide) c27)
    obtain ⟨p, hp1, hp2, hp3, hp4⟩ := hpp
    have htp : tn (bphA g f (R 20) x dp 0) = p := by rw [hp2]; exact tn_nI (by omega)
    have hVp := hV p hp1
    have hVe := hVp.2 (Or.inr hp3)
    have eP : bperfE g R f C x dp = _ := if_neg c27
    rw [htp] at eP
    rw [hp2]
    refine z_aload0 dX8_perform_41 ?_
    refine zc_getF (j := 17) hW fl_RX8_24 rfl (by decide) (hF _ (List.mem_of_getElem? (i := 19) rfl)) dX8_perform_42 ?_
    refine zc_getF (j := 19) hW fl_RX8_252 rfl (by decide) (hF _ (List.mem_of_getElem? (i := 24) rfl)) dX8_perform_45 ?_
    refine z_iload2 dX8_perform_48 ?_
    refine zc_alds (j := 20) (t' := 2) hw hW rfl (by decide) (by decide) (rfl : nI p = nI p) (by omega) (fun _ => rfl) (by decide) hVp.1 dX8_perform_49 (fun i2 => ?_)
    refine z_astore3 dX8_perform_50 ?_
    refine z_aload0 dX8_perform_51 ?_
    refine z_iload2 dX8_perform_52 ?_
    refine z_callV zmd_X8_captureDownTo rfl (by decide) zl_RX8_256 zin_X8_captureDownTo zsel_X8_captureDownTo (B_X8_captureDownTo (d := d - 1) hW hF hw p dp hdp (by omega) h100 (by omega) (by omega)) (hW.i 17 rfl) rfl rfl (by omega) rfl dX8_perform_53 (fun r3 g3 f3 mc3 ms3 q3 => ?_)
    obtain ⟨rfl, rfl, rfl, hc3, hs3, w3, k3, b3⟩ := q3
    have hX := zXt.cap g R f C p (dp - p)
    have hrr : zIn b0 (bcap g R f C p (dp - p)).1 (g.1 + 1) 7 := bcap_res hW
    have hxS := (i2.le hX.1 : zIn b0 (bcap g R f C p (dp - p)).1 ((R 20 p).getD 0) 2)
    have heS := hVe.2.xt hX hw hW (hw.get (t := 2) (k := 1) i2.gv rfl (by decide) (by rw [gv_out (hW.out i2 (by decide))]; exact hVe.1))
    refine z_astore4 dX8_perform_56 ?_
    refine z_aload3 dX8_perform_58 ?_
    show zS _ _ _ _ _ _ _ 59 _ _ _ _ _
    refine zd_getS w3 b3 fl_RX8_108 (i2.le k3) (by decide) (by decide) ((congrFun (hX.2 _ i2.2.1) 1).trans hVe.1) dX8_perform_59 (fun i4 => ?_)
    refine z_iload1 dX8_perform_62 ?_
    refine z_callVi zmd_X1_clauseVariable rfl (by decide) zl_RX8_260 zin_X1_clauseVariable zsel_X1_clauseVariable (B_X1_clauseVariable (d := d - 1) b3 (hF.cap) w3 _ _ i4 heS) i4 rfl rfl (by omega) rfl dX8_perform_63 ?_
    refine z_istore5 dX8_perform_66 ?_
    refine z_aload0 dX8_perform_68 ?_
    refine z_aload3 dX8_perform_69 ?_
    refine zd_getS w3 b3 fl_RX8_108 (i2.le k3) (by decide) (by decide) ((congrFun (hX.2 _ i2.2.1) 1).trans hVe.1) dX8_perform_70 (fun i6 => ?_)
    refine z_iload1 dX8_perform_73 ?_
    refine z_callV zmd_X1_clause rfl (by decide) zl_RX8_263 zin_X1_clause zsel_X1_clause (B_X1_clause (d := d - 1) b3 (hF.cap) w3 _ _ i6 heS) i6 rfl rfl (by omega) rfl dX8_perform_74 (fun r7 g7 f7 mc7 ms7 q7 => ?_)
    obtain ⟨rfl, rfl, rfl, rfl, rfl⟩ := q7
    refine zd_new w3 b3 zcls_X9 zc_RX8_180 zi_RX9 zini_RX9 (by decide) dX8_perform_77 (fun w8 k8 b8 i8 => ?_)
    refine z_dup dX8_perform_80 ?_
    refine z_iload5 dX8_perform_81 ?_
    show zS _ _ _ _ _ _ _ 83 _ _ _ _ _
    refine z_aload0 dX8_perform_83 ?_
    refine zc_getI (j := 17) b8 fl_RX8_64 rfl dX8_perform_84 ?_
    refine z_aload4 dX8_perform_87 ?_
    refine z_aload3 dX8_perform_89 ?_
    refine zd_getN w8 b8 fl_RX8_220 ((i2.le k3).le k8) (by decide) (by decide) dX8_perform_90 (fun i9 => ?_)
    refine z_callI zmd_X9_init rfl rfl zl_RX8_231 zin_X9_init (B_X9_init (d := d - 1) b8 w8 _ _ _ (some _) _ b3.newout i8 (fun b hb => by cases hb; exact (hrr.le k8)) i9 (by omega)) rfl rfl (by omega) rfl dX8_perform_93 (fun r10 g10 f10 mc10 ms10 q10 => ?_) (by simp [zcat_o] <;> simp [Value.category])
    obtain ⟨rfl, rfl, rfl, hc10, hs10, w10, k10, b10⟩ := q10
    refine z_callV zmd_X8_goTo rfl (by decide) zl_RX8_89 zin_X8_goTo zsel_X8_goTo (B_X8_goTo (d := d - 1) b10 (hF.cap) w10 _ (some _) (fun b hb => ((fun b hb => ((bclause_in w3 b3 i6 heS) b hb).le k8) b hb).le k10) (fun b hb => by cases hb; exact (i8.le k10))) (b10.i 17 rfl) rfl rfl (by omega) rfl dX8_perform_96 (fun r11 g11 f11 mc11 ms11 q11 => ?_)
    obtain ⟨rfl, rfl, rfl, hc11, hs11, w11, k11, b11⟩ := q11
    refine z_ret dX8_perform_99 rfl ?_
    rw [eP, show bperfc g f R x dp = 111 from if_neg c27]
    exact ⟨rfl, rfl, rfl, by omega, by omega, w11, (((k3.tr k8).tr k10).tr k11), b11⟩
  · show zS _ _ _ _ _ _ _ 30 _ _ _ _ _
    refine z_aload0 dX8_perform_30 ?_
    refine z_iconst (v := 3) dX8_perform_31 (by decide) ?_
    refine zc_putI (j := 17) hW fl_RX8_17 rfl dX8_perform_32 ?_
    refine z_aload0 dX8_perform_35 ?_
    refine z_iload1 dX8_perform_36 ?_
    refine zc_putI (j := 17) hW fl_RX8_67 rfl dX8_perform_37 ?_
    refine z_ret dX8_perform_40 rfl ?_
    rw [show bperfE g R f C x dp = _ from if_pos (by first | exact c27 | exact Int32.not_le.mp c27)]
    exact ⟨rfl, rfl, rfl, by omega, by omega, hw, zLe.rf, hW⟩
set_option maxRecDepth 20000 in
set_option maxHeartbeats 400000 in
theorem B_X8_perform {l : Launch} {d : Nat} {D : zD} {b0 : Nat} {g : zG} {f C : zI} {R : zRf} {c : Nat} (hW : CW b0 g c) (hF : CF c R) (hw : zOK b0 zNo (gv c g R)) (x : Int32) (dp : Nat) (hdp : C 19 1 = nI dp) (h100 : dp ≤ 100) (hV : bphV g f c (R 20) dp) (hd : 4 ≤ d) : zM l d D b0 mX8_perform [.ref (c + 13), .int x] (gv c g R) (cv c f C) (zCy b0 zNo c g none (bperf g R f C x dp).1 (bperf g R f C x dp).2.1 (bperf g R f C x dp).2.2.1 (bperf g R f C x dp).2.2.2 (min 4 (bperfc g f R x dp / 5)) (bperfc g f R x dp)) := by
  refine zM.start zmd_X8_perform (Nat.le_of_ble_eq_true rfl) ⟨rfl, rfl, trivial⟩ [some (.ref (c + 13)), some (.int x), none, none, none, none] rfl ?_
  refine z_iload1 dX8_perform_0 ?_
  refine z_callSNi zmd_X11_isOperation (host := "EffectMachine") (by decide) zst_X11_isOperation (K_X11_isOperation (d := d - 1) _) rfl rfl (by omega) rfl dX8_perform_1 ?_
  refine z_if_eq (tgt := 17) dX8_perform_4 (by decide) (fun c4 => ?_) (fun c4 => ?_)
  · show zS _ _ _ _ _ _ _ 17 _ _ _ _ _
    rw [bperfE_eq, show bpc C x = C from if_neg (zB_f c4)]
    exact Bt_X8_perform hW hF hw x dp hdp h100 hV hd
  · show zS _ _ _ _ _ _ _ 7 _ _ _ _ _
    have hx6 : iv 6 x := by
      obtain ⟨q1, q2⟩ := zB_t c4
      obtain ⟨j, h1, rfl⟩ := nI_of q1
      exact iv_nI ((nI_ltI (b := 6) h1 (by decide)).mp q2) (by decide)
    have hx7 := hx6.1
    refine z_aload0 dX8_perform_7 ?_
    refine zc_getF (j := 17) hW fl_RX8_39 rfl (by decide) (hF _ (List.mem_of_getElem? (i := 22) rfl)) dX8_perform_8 ?_
    refine z_iload1 dX8_perform_11 ?_
    refine z_dup2 dX8_perform_12 ?_
    refine zc_ld (j := 25) hW rfl (by decide) hx6.2 (by omega) dX8_perform_13 ?_
    refine z_iconst (v := 1) dX8_perform_14 (by decide) ?_
    refine z_iadd dX8_perform_15 ?_
    refine zc_st (j := 25) hW rfl (by decide) hx6.2 (by omega) dX8_perform_16 ?_
    rw [bperfE_eq, show bpc C x = zup C 25 (tn x) (C 25 (tn x) + 1) from if_pos (zB_t c4)]
    exact Bt_X8_perform hW hF hw x dp (by rw [zup_r (by decide)]; exact hdp) h100 hV hd
