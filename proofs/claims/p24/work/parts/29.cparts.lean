/-! The class's run: what a step is made of, over the block. -/
def bgoTo (R : zRf) (e s : Option Nat) : zRf := zup (zup R 17 4 e) 17 5 s
def bemit (C : zI) : zI := if C 17 11 < 60 then (let C1 := zup C 24 (tn (C 17 11)) (C 17 6); zup C1 17 11 (C1 17 11 + 1)) else C
def bresult (k a b : Int32) : Int32 := if k = 42 then a * b else if k = 43 then a + b else if k = 44 then (if a < b then 1 else 0) else if k = 45 then a - b else if a < b then 1 else 0
def bend (C : zI) (R : zRf) : zI := if C 17 2 = 1 then (if R 17 4 = none ∧ C 19 1 = 0 then zup C 17 2 2 else if C 17 3 < 1000 then C else zup C 17 2 5) else C
theorem CF.up {c : Nat} {R : zRf} {j k : Nat} {v : Option Nat} (h : CF c R) (hjk : ∀ q ∈ bF, ¬ (q.1 = j ∧ q.2.1 = k)) : CF c (zup R j k v) := by
  intro q hq
  have := hjk q hq
  rw [zup_ne _ _ _ _ (by omega)]
  exact h q hq
theorem CF.upj {c : Nat} {R : zRf} {j k : Nat} {v : Option Nat} (h : CF c R) (hj : ∀ q ∈ bF, ¬ q.1 = j) : CF c (zup R j k v) := h.up (fun q hq e => hj q hq e.1)
theorem CF.goTo {c : Nat} {R : zRf} {e s : Option Nat} (h : CF c R) : CF c (bgoTo R e s) := (h.up (by decide)).up (by decide)
theorem CF.push {c : Nat} {R : zRf} {k : Nat} {v : Option Nat} (h : CF c R) : CF c (zup R 20 k v) := h.upj (by decide)
set_option maxRecDepth 20000 in
set_option maxHeartbeats 400000 in
theorem B_X8_goTo {l : Launch} {d : Nat} {D : zD} {b0 : Nat} {g : zG} {f C : zI} {R : zRf} {c : Nat} (hW : CW b0 g c) (hF : CF c R) (hw : zOK b0 zNo (gv c g R)) (e s : Option Nat) (he : ∀ b, e = some b → zIn b0 g b 1) (hs : ∀ b, s = some b → zIn b0 g b 9) : zM l d D b0 mX8_goTo [.ref (c + 13), va_rf e, va_rf s] (gv c g R) (cv c f C) (zCy b0 zNo c g none g (bgoTo R e s) f C 0 0) := by
  refine zM.start zmd_X8_goTo (Nat.le_of_ble_eq_true rfl) ⟨rfl, zcat_o _, zcat_o _, trivial⟩ [some (.ref (c + 13)), some (va_rf e), some (va_rf s)] rfl ?_
  refine z_aload0 dX8_goTo_0 ?_
  refine z_aload1 dX8_goTo_1 ?_
  refine zc_putR (j := 17) hw hW fl_RX8_56 rfl (by decide) (Or.inl ⟨_, rfl⟩) he (by decide) dX8_goTo_2 (fun w1 => ?_)
  refine z_aload0 dX8_goTo_5 ?_
  refine z_aload2 dX8_goTo_6 ?_
  refine zc_putR (j := 17) w1 hW fl_RX8_60 rfl (by decide) (Or.inl ⟨_, rfl⟩) hs (by decide) dX8_goTo_7 (fun w2 => ?_)
  refine z_ret dX8_goTo_10 rfl ?_
  exact ⟨rfl, rfl, rfl, by omega, by omega, w2, zLe.rf, hW⟩
set_option maxRecDepth 20000 in
set_option maxHeartbeats 400000 in
theorem B_X8_emit {l : Launch} {d : Nat} {D : zD} {b0 : Nat} {g : zG} {f C : zI} {R : zRf} {c : Nat} (hW : CW b0 g c) (hF : CF c R) (hw : zOK b0 zNo (gv c g R)) (ht : iv 61 (C 17 11)) : zM l d D b0 mX8_emit [.ref (c + 13)] (gv c g R) (cv c f C) (zCy b0 zNo c g none g R f (bemit C) 0 0) := by
  have ht1 := ht.1
  refine zM.start zmd_X8_emit (Nat.le_of_ble_eq_true rfl) ⟨rfl, trivial⟩ [some (.ref (c + 13))] rfl ?_
  refine z_aload0 dX8_emit_0 ?_
  refine zc_getI (j := 17) hW fl_RX8_83 rfl dX8_emit_1 ?_
  refine z_bipush (v := 60) dX8_emit_4 (by decide) ?_
  refine z_icmp_ge (tgt := 32) dX8_emit_6 (by decide) (fun c6 => ?_) (fun c6 => ?_)
  · show zS _ _ _ _ _ _ _ 32 _ _ _ _ _
    refine z_ret dX8_emit_32 rfl ?_
    rw [show bemit C = C from if_neg c6]
    exact ⟨rfl, rfl, rfl, by omega, by omega, hw, zLe.rf, hW⟩
  · show zS _ _ _ _ _ _ _ 9 _ _ _ _ _
    have hlt : tn (C 17 11) < 60 := by
      have e := c6
      rw [ht.2] at e
      exact (nI_ltI (b := 60) (by omega) (by decide)).mp e
    refine z_aload0 dX8_emit_9 ?_
    refine zc_getF (j := 17) hW fl_RX8_35 rfl (by decide) (hF _ (List.mem_of_getElem? (i := 21) rfl)) dX8_emit_10 ?_
    refine z_aload0 dX8_emit_13 ?_
    refine zc_getI (j := 17) hW fl_RX8_83 rfl dX8_emit_14 ?_
    refine z_aload0 dX8_emit_17 ?_
    refine zc_getI (j := 17) hW fl_RX8_64 rfl dX8_emit_18 ?_
    refine zc_st (j := 24) hW rfl (by decide) ht.2 (by omega) dX8_emit_21 ?_
    refine z_aload0 dX8_emit_22 ?_
    refine z_dup dX8_emit_23 ?_
    refine zc_getI (j := 17) hW fl_RX8_83 rfl dX8_emit_24 ?_
    refine z_iconst (v := 1) dX8_emit_27 (by decide) ?_
    show zS _ _ _ _ _ _ _ 28 _ _ _ _ _
    refine z_iadd dX8_emit_28 ?_
    refine zc_putI (j := 17) hW fl_RX8_83 rfl dX8_emit_29 ?_
    refine z_ret dX8_emit_32 rfl ?_
    rw [show bemit C = _ from if_pos c6]
    exact ⟨rfl, rfl, rfl, by omega, by omega, hw, zLe.rf, hW⟩
set_option maxRecDepth 20000 in
theorem K_X8_resultOf {l : Launch} {d : Nat} {D : zD} {b0 : Nat} {g : zG} {f : zI}  (k a b : Int32) : zM l d D b0 mX8_resultOf [.int k, .int a, .int b] g f (zEx (some (.int (bresult k a b))) g f) := by
  refine zM.start zmd_X8_resultOf (Nat.le_of_ble_eq_true rfl) ⟨rfl, rfl, rfl, trivial⟩ [some (.int k), some (.int a), some (.int b)] rfl ?_
  refine z_iload0 dX8_resultOf_0 ?_
  refine z_tab dX8_resultOf_1 (by decide +kernel) (by decide +kernel) ?_
  refine ⟨fun c1_0 => ?_, fun nc1_0 => ?_⟩
  · show zS _ _ _ _ _ _ _ 40 _ _ _ _ _
    refine z_iload1 dX8_resultOf_40 ?_
    refine z_iload2 dX8_resultOf_41 ?_
    refine z_imul dX8_resultOf_42 ?_
    refine z_iret dX8_resultOf_43 rfl ?_
    refine ⟨congrArg (fun z => some (Value.int z)) ?_, rfl, rfl, rfl, rfl⟩
    unfold bresult
    first
      | (rw [‹k = _›]; first | rfl | exact (if_pos (by assumption)).symm | exact (if_neg (by assumption)).symm)
      | exact ((if_neg nc1_0).trans ((if_neg nc1_1).trans ((if_neg nc1_2).trans ((if_neg nc1_3).trans (by first | exact if_pos (by assumption) | exact if_neg (by assumption)))))).symm
  refine ⟨fun c1_1 => ?_, fun nc1_1 => ?_⟩
  · show zS _ _ _ _ _ _ _ 32 _ _ _ _ _
    refine z_iload1 dX8_resultOf_32 ?_
    refine z_iload2 dX8_resultOf_33 ?_
    refine z_iadd dX8_resultOf_34 ?_
    refine z_iret dX8_resultOf_35 rfl ?_
    refine ⟨congrArg (fun z => some (Value.int z)) ?_, rfl, rfl, rfl, rfl⟩
    unfold bresult
    first
      | (rw [‹k = _›]; first | rfl | exact (if_pos (by assumption)).symm | exact (if_neg (by assumption)).symm)
      | exact ((if_neg nc1_0).trans ((if_neg nc1_1).trans ((if_neg nc1_2).trans ((if_neg nc1_3).trans (by first | exact if_pos (by assumption) | exact if_neg (by assumption)))))).symm
  refine ⟨fun c1_2 => ?_, fun nc1_2 => ?_⟩
  · show zS _ _ _ _ _ _ _ 44 _ _ _ _ _
    refine z_iload1 dX8_resultOf_44 ?_
    refine z_iload2 dX8_resultOf_45 ?_
    refine z_icmp_ge (tgt := 53) dX8_resultOf_46 (by decide) (fun c46 => ?_) (fun c46 => ?_)
    · show zS _ _ _ _ _ _ _ 53 _ _ _ _ _
      refine z_iconst (v := 0) dX8_resultOf_53 (by decide) ?_
      refine z_iret dX8_resultOf_54 rfl ?_
      refine ⟨congrArg (fun z => some (Value.int z)) ?_, rfl, rfl, rfl, rfl⟩
      unfold bresult
      first
        | (rw [‹k = _›]; first | rfl | exact (if_pos (by assumption)).symm | exact (if_neg (by assumption)).symm)
        | exact ((if_neg nc1_0).trans ((if_neg nc1_1).trans ((if_neg nc1_2).trans ((if_neg nc1_3).trans (by first | exact if_pos (by assumption) | exact if_neg (by assumption)))))).symm
    · show zS _ _ _ _ _ _ _ 49 _ _ _ _ _
      refine z_iconst (v := 1) dX8_resultOf_49 (by decide) ?_
      refine z_goto (tgt := 54) dX8_resultOf_50 (by decide) ?_
      show zS _ _ _ _ _ _ _ 54 _ _ _ _ _
      refine z_iret dX8_resultOf_54 rfl ?_
      refine ⟨congrArg (fun z => some (Value.int z)) ?_, rfl, rfl, rfl, rfl⟩
      unfold bresult
      first
        | (rw [‹k = _›]; first | rfl | exact (if_pos (by assumption)).symm | exact (if_neg (by assumption)).symm)
        | exact ((if_neg nc1_0).trans ((if_neg nc1_1).trans ((if_neg nc1_2).trans ((if_neg nc1_3).trans (by first | exact if_pos (by assumption) | exact if_neg (by assumption)))))).symm
  refine ⟨fun c1_3 => ?_, fun nc1_3 => ?_⟩
  · show zS _ _ _ _ _ _ _ 36 _ _ _ _ _
    refine z_iload1 dX8_resultOf_36 ?_
    refine z_iload2 dX8_resultOf_37 ?_
    refine z_isub dX8_resultOf_38 ?_
    refine z_iret dX8_resultOf_39 rfl ?_
    refine ⟨congrArg (fun z => some (Value.int z)) ?_, rfl, rfl, rfl, rfl⟩
    unfold bresult
    first
      | (rw [‹k = _›]; first | rfl | exact (if_pos (by assumption)).symm | exact (if_neg (by assumption)).symm)
      | exact ((if_neg nc1_0).trans ((if_neg nc1_1).trans ((if_neg nc1_2).trans ((if_neg nc1_3).trans (by first | exact if_pos (by assumption) | exact if_neg (by assumption)))))).symm
  show zS _ _ _ _ _ _ _ 44 _ _ _ _ _
  refine z_iload1 dX8_resultOf_44 ?_
  refine z_iload2 dX8_resultOf_45 ?_
  refine z_icmp_ge (tgt := 53) dX8_resultOf_46 (by decide) (fun c46 => ?_) (fun c46 => ?_)
  · show zS _ _ _ _ _ _ _ 53 _ _ _ _ _
    refine z_iconst (v := 0) dX8_resultOf_53 (by decide) ?_
    refine z_iret dX8_resultOf_54 rfl ?_
    refine ⟨congrArg (fun z => some (Value.int z)) ?_, rfl, rfl, rfl, rfl⟩
    unfold bresult
    first
      | (rw [‹k = _›]; first | rfl | exact (if_pos (by assumption)).symm | exact (if_neg (by assumption)).symm)
      | exact ((if_neg nc1_0).trans ((if_neg nc1_1).trans ((if_neg nc1_2).trans ((if_neg nc1_3).trans (by first | exact if_pos (by assumption) | exact if_neg (by assumption)))))).symm
  · show zS _ _ _ _ _ _ _ 49 _ _ _ _ _
    refine z_iconst (v := 1) dX8_resultOf_49 (by decide) ?_
    refine z_goto (tgt := 54) dX8_resultOf_50 (by decide) ?_
    show zS _ _ _ _ _ _ _ 54 _ _ _ _ _
    refine z_iret dX8_resultOf_54 rfl ?_
    refine ⟨congrArg (fun z => some (Value.int z)) ?_, rfl, rfl, rfl, rfl⟩
    unfold bresult
    first
      | (rw [‹k = _›]; first | rfl | exact (if_pos (by assumption)).symm | exact (if_neg (by assumption)).symm)
      | exact ((if_neg nc1_0).trans ((if_neg nc1_1).trans ((if_neg nc1_2).trans ((if_neg nc1_3).trans (by first | exact if_pos (by assumption) | exact if_neg (by assumption)))))).symm
set_option maxRecDepth 20000 in
set_option maxHeartbeats 400000 in
theorem B_X8_endIfDue {l : Launch} {d : Nat} {D : zD} {b0 : Nat} {g : zG} {f C : zI} {R : zRf} {c : Nat} (hW : CW b0 g c) (hF : CF c R) (hw : zOK b0 zNo (gv c g R))  : zM l d D b0 mX8_endIfDue [.ref (c + 13)] (gv c g R) (cv c f C) (zCy b0 zNo c g none g R f (bend C R) 0 0) := by
  refine zM.start zmd_X8_endIfDue (Nat.le_of_ble_eq_true rfl) ⟨rfl, trivial⟩ [some (.ref (c + 13))] rfl ?_
  refine z_aload0 dX8_endIfDue_0 ?_
  refine zc_getI (j := 17) hW fl_RX8_17 rfl dX8_endIfDue_1 ?_
  refine z_iconst (v := 1) dX8_endIfDue_4 (by decide) ?_
  refine z_icmp_eq (tgt := 9) dX8_endIfDue_5 (by decide) (fun c5 => ?_) (fun c5 => ?_)
  · show zS _ _ _ _ _ _ _ 9 _ _ _ _ _
    refine z_aload0 dX8_endIfDue_9 ?_
    refine zc_getN (j := 17) hw hW fl_RX8_56 rfl (by decide) dX8_endIfDue_10 (fun i1 => ?_)
    refine z_ifnonnull (tgt := 34) dX8_endIfDue_13 (by decide) (fun a13 c13 => ?_) (fun c13 => ?_)
    · show zS _ _ _ _ _ _ _ 34 _ _ _ _ _
      refine z_aload0 dX8_endIfDue_34 ?_
      refine zc_getI (j := 17) hW fl_RX8_53 rfl dX8_endIfDue_35 ?_
      refine z_sipush (v := 1000) dX8_endIfDue_38 (by decide) ?_
      refine z_icmp_lt (tgt := 49) dX8_endIfDue_41 (by decide) (fun c41 => ?_) (fun c41 => ?_)
      · show zS _ _ _ _ _ _ _ 49 _ _ _ _ _
        refine z_ret dX8_endIfDue_49 rfl ?_
        rw [show bend C R = _ from (if_pos c5).trans ((if_neg (fun q => by rw [c13] at q; cases q.1)).trans (if_pos c41))]
        exact ⟨rfl, rfl, rfl, by omega, by omega, hw, zLe.rf, hW⟩
      · show zS _ _ _ _ _ _ _ 44 _ _ _ _ _
        refine z_aload0 dX8_endIfDue_44 ?_
        refine z_iconst (v := 5) dX8_endIfDue_45 (by decide) ?_
        refine zc_putI (j := 17) hW fl_RX8_17 rfl dX8_endIfDue_46 ?_
        refine z_ret dX8_endIfDue_49 rfl ?_
        rw [show bend C R = _ from (if_pos c5).trans ((if_neg (fun q => by rw [c13] at q; cases q.1)).trans (if_neg c41))]
        exact ⟨rfl, rfl, rfl, by omega, by omega, hw, zLe.rf, hW⟩
    · show zS _ _ _ _ _ _ _ 16 _ _ _ _ _
      refine z_aload0 dX8_endIfDue_16 ?_
      refine zc_getF (j := 17) hW fl_RX8_24 rfl (by decide) (hF _ (List.mem_of_getElem? (i := 19) rfl)) dX8_endIfDue_17 ?_
      refine zc_getI (j := 19) hW fl_RX8_158 rfl dX8_endIfDue_20 ?_
      refine z_if_ne (tgt := 34) dX8_endIfDue_23 (by decide) (fun c23 => ?_) (fun c23 => ?_)
      · show zS _ _ _ _ _ _ _ 34 _ _ _ _ _
        refine z_aload0 dX8_endIfDue_34 ?_
        refine zc_getI (j := 17) hW fl_RX8_53 rfl dX8_endIfDue_35 ?_
        refine z_sipush (v := 1000) dX8_endIfDue_38 (by decide) ?_
        refine z_icmp_lt (tgt := 49) dX8_endIfDue_41 (by decide) (fun c41 => ?_) (fun c41 => ?_)
        · show zS _ _ _ _ _ _ _ 49 _ _ _ _ _
          refine z_ret dX8_endIfDue_49 rfl ?_
          rw [show bend C R = _ from (if_pos c5).trans ((if_neg (fun q => absurd q.2 c23)).trans (if_pos c41))]
          exact ⟨rfl, rfl, rfl, by omega, by omega, hw, zLe.rf, hW⟩
        · show zS _ _ _ _ _ _ _ 44 _ _ _ _ _
          refine z_aload0 dX8_endIfDue_44 ?_
          refine z_iconst (v := 5) dX8_endIfDue_45 (by decide) ?_
          refine zc_putI (j := 17) hW fl_RX8_17 rfl dX8_endIfDue_46 ?_
          refine z_ret dX8_endIfDue_49 rfl ?_
          rw [show bend C R = _ from (if_pos c5).trans ((if_neg (fun q => absurd q.2 c23)).trans (if_neg c41))]
          exact ⟨rfl, rfl, rfl, by omega, by omega, hw, zLe.rf, hW⟩
      · show zS _ _ _ _ _ _ _ 26 _ _ _ _ _
        refine z_aload0 dX8_endIfDue_26 ?_
        refine z_iconst (v := 2) dX8_endIfDue_27 (by decide) ?_
        refine zc_putI (j := 17) hW fl_RX8_17 rfl dX8_endIfDue_28 ?_
        refine z_goto (tgt := 49) dX8_endIfDue_31 (by decide) ?_
        show zS _ _ _ _ _ _ _ 49 _ _ _ _ _
        refine z_ret dX8_endIfDue_49 rfl ?_
        rw [show bend C R = _ from (if_pos c5).trans (if_pos ⟨c13, c23⟩)]
        exact ⟨rfl, rfl, rfl, by omega, by omega, hw, zLe.rf, hW⟩
  · show zS _ _ _ _ _ _ _ 8 _ _ _ _ _
    refine z_ret dX8_endIfDue_8 rfl ?_
    rw [show bend C R = _ from if_neg c5]
    exact ⟨rfl, rfl, rfl, by omega, by omega, hw, zLe.rf, hW⟩
set_option maxRecDepth 20000 in
set_option maxHeartbeats 400000 in
theorem B_X8_goOnWith {l : Launch} {d : Nat} {D : zD} {b0 : Nat} {g : zG} {f C : zI} {R : zRf} {c : Nat} (hW : CW b0 g c) (hF : CF c R) (hw : zOK b0 zNo (gv c g R)) (v : Int32) (hd : 1 ≤ d) : zM l d D b0 mX8_goOnWith [.ref (c + 13), .int v] (gv c g R) (cv c f C) (zCy b0 zNo c g none g (zup R 17 4 none) f (bend (zup (zup C 17 6 v) 17 2 1) (zup R 17 4 none)) 0 0) := by
  refine zM.start zmd_X8_goOnWith (Nat.le_of_ble_eq_true rfl) ⟨rfl, rfl, trivial⟩ [some (.ref (c + 13)), some (.int v)] rfl ?_
  refine z_aload0 dX8_goOnWith_0 ?_
  refine z_null dX8_goOnWith_1 ?_
  refine zc_putRn (j := 17) hw hW fl_RX8_56 rfl (by decide) (Or.inl ⟨_, rfl⟩) (by decide) dX8_goOnWith_2 (fun w1 => ?_)
  refine z_aload0 dX8_goOnWith_5 ?_
  refine z_iload1 dX8_goOnWith_6 ?_
  refine zc_putI (j := 17) hW fl_RX8_64 rfl dX8_goOnWith_7 ?_
  refine z_aload0 dX8_goOnWith_10 ?_
  refine z_iconst (v := 1) dX8_goOnWith_11 (by decide) ?_
  refine zc_putI (j := 17) hW fl_RX8_17 rfl dX8_goOnWith_12 ?_
  refine z_aload0 dX8_goOnWith_15 ?_
  refine z_callV zmd_X8_endIfDue rfl (by decide) zl_RX8_155 zin_X8_endIfDue zsel_X8_endIfDue (B_X8_endIfDue (d := d - 1) hW (hF.up (by decide)) w1) (hW.i 17 rfl) rfl rfl (by omega) rfl dX8_goOnWith_16 (fun r2 g2 f2 mc2 ms2 q2 => ?_)
  obtain ⟨rfl, rfl, rfl, hc2, hs2, w2, k2, b2⟩ := q2
  show zS _ _ _ _ _ _ _ 19 _ _ _ _ _
  refine z_ret dX8_goOnWith_19 rfl ?_
  exact ⟨rfl, rfl, rfl, by omega, by omega, w2, k2, b2⟩
theorem bnewRes_r {C : zI} {r : Nat} (h1 : r ≠ 21) (h2 : r ≠ 22) : bnewRes C r = C r := by
  show zup (bst C 22 (C 21 1) 0) 21 1 _ r = C r
  rw [zup_r h1]
  unfold bst
  split
  · rw [zup_r h2]
  · rfl
theorem bexec_r {C : zI} {x : Int32} {r : Nat} (h1 : r ≠ 21) (h2 : r ≠ 23) : bexec C x r = C r := by
  unfold bexec bst
  split
  · rw [zup_r h2, zup_r h1]
  · rw [zup_r h1]
theorem dFr_r {g : zG} {e s r : Option Nat} {a : Nat} (h : a ≠ g.1) : (dFr g e s r).2.2.2 a = g.2.2.2 a := by
  show zup (zup (zup (zu1 g.2.2.2 g.1 _) g.1 1 e) g.1 2 s) g.1 4 r a = _
  rw [zup_r h, zup_r h, zup_r h, zu1_ne _ _ _ h]
theorem dSc_r {g : zG} {s r : Option Nat} {a : Nat} (h : a ≠ g.1) : (dSc g r s).2.2.2 a = g.2.2.2 a := by
  show zup (zup (zu1 g.2.2.2 g.1 _) g.1 2 r) g.1 3 s a = _
  rw [zup_r h, zup_r h, zu1_ne _ _ _ h]
abbrev bSt : Type := zG × zRf × zI × zI
/-- all frames from place p up are captured; the clause of the resumption takes their place -/
def bcap (g : zG) (R : zRf) (f C : zI) (p n : Nat) : bSt :=
  let G1 := capG g (R 20) p n n
  let C1 := zup C 19 1 (C 19 1 - nI n)
  let G2 := dRes G1 g.1
  let F2 := dResF G1 (znI g f) (C1 21 1)
  let C2 := bnewRes C1
  (dFr G2 none none (some G1.1), zup R 20 (tn (C2 19 1)) (some G2.1), dFrF G2 F2 14 0, bpushC C2)
def bexe (g : zG) (R : zRf) (f C : zI) (x : Nat) : bSt :=
  let C1 := bexec C (f x 3)
  let G := dFr g none none none
  (G, bgoTo (zup R 20 (tn (C1 19 1)) (some g.1)) (G.2.2.2 (pA g x 1) 3) (G.2.2.2 x 2), dFrF g f 13 (C1 17 6), bpushC C1)
def bcall (g : zG) (R : zRf) (f C : zI) (p : Int32) : bSt :=
  if (¬ p < 0 ∧ p < 4) ∧ ¬ R 18 (tn p) = none then (dSc g none none, bgoTo R (some (pA g ((R 18 (tn p)).getD 0) 0)) (some g.1), dScF g f 23 (C 17 6), C) else (g, R, f, C)
def bleave (g : zG) (R : zRf) (f C : zI) (h : Nat) (s : Option Nat) : bSt :=
  if bclause g h 6 = none then (g, R, f, C) else (dSc g (bresIn (znG g 9 0) s) s, bgoTo R (bclause g h 6) (some g.1), dScF g f (bclvar g f h 6) (C 17 6), C)
set_option maxRecDepth 20000 in
set_option maxHeartbeats 400000 in
theorem B_X8_captureDownTo {l : Launch} {d : Nat} {D : zD} {b0 : Nat} {g : zG} {f C : zI} {R : zRf} {c : Nat} (hW : CW b0 g c) (hF : CF c R) (hw : zOK b0 zNo (gv c g R)) (p dp : Nat) (hdp : C 19 1 = nI dp) (h1 : p ≤ dp) (h2 : dp ≤ 100) (h3 : p < 100) (hd : 3 ≤ d) : zM l d D b0 mX8_captureDownTo [.ref (c + 13), .int (nI p)] (gv c g R) (cv c f C) (zCy b0 zNo c g (some (.ref (g.1 + 1))) (bcap g R f C p (dp - p)).1 (bcap g R f C p (dp - p)).2.1 (bcap g R f C p (dp - p)).2.2.1 (bcap g R f C p (dp - p)).2.2.2 3 (dp - p + 7)) := by
  refine zM.start zmd_X8_captureDownTo (Nat.le_of_ble_eq_true rfl) ⟨rfl, rfl, trivial⟩ [some (.ref (c + 13)), some (.int (nI p)), none] rfl ?_
  refine z_aload0 dX8_captureDownTo_0 ?_
  refine zc_getF (j := 17) hW fl_RX8_31 rfl (by decide) (hF _ (List.mem_of_getElem? (i := 20) rfl)) dX8_captureDownTo_1 ?_
  refine z_aload0 dX8_captureDownTo_4 ?_
  refine zc_getF (j := 17) hW fl_RX8_24 rfl (by decide) (hF _ (List.mem_of_getElem? (i := 19) rfl)) dX8_captureDownTo_5 ?_
  refine z_iload1 dX8_captureDownTo_8 ?_
  refine z_callV zmd_X10_popDownTo rfl (by decide) zl_RX8_161 zin_X10_popDownTo zsel_X10_popDownTo (B_X10_popDownTo (d := d - 1) hW hF hw _ _ hdp h1 h2 (by omega)) (hW.i 19 rfl) rfl rfl (by omega) rfl dX8_captureDownTo_9 (fun r1 g1 f1 mc1 ms1 q1 => ?_)
  obtain ⟨rfl, rfl, rfl, hc1, hs1, w1, k1, b1⟩ := q1
  refine z_callV zmd_X3_newResumption rfl (by decide) zl_RX8_165 zin_X3_newResumption zsel_X3_newResumption (B_X3_newResumption (d := d - 1) b1 hF w1 _ (zIn.self (n := dp - p) (Nat.le_trans hW.1 (by have := hW.2.1; omega)) : zIn b0 (znG g 15 (dp - p)) g.1 15) (by omega)) (b1.i 21 rfl) rfl rfl (by omega) rfl dX8_captureDownTo_12 (fun r2 g2 f2 mc2 ms2 q2 => ?_)
  obtain ⟨rfl, rfl, rfl, hc2, hs2, w2, k2, b2⟩ := q2
  refine z_astore2 dX8_captureDownTo_15 ?_
  refine z_aload0 dX8_captureDownTo_16 ?_
  refine zc_getF (j := 17) b2 fl_RX8_24 rfl (by decide) (hF _ (List.mem_of_getElem? (i := 19) rfl)) dX8_captureDownTo_17 ?_
  refine zd_new w2 b2 zcls_X2 zc_RX8_104 zi_RX2 zini_RX2 (by decide) dX8_captureDownTo_20 (fun w3 k3 b3 i3 => ?_)
  show zS _ _ _ _ _ _ _ 23 _ _ _ _ _
  refine z_dup dX8_captureDownTo_23 ?_
  refine z_bipush (v := 14) dX8_captureDownTo_24 (by decide) ?_
  refine z_null dX8_captureDownTo_26 ?_
  refine z_null dX8_captureDownTo_27 ?_
  refine z_iconst (v := 0) dX8_captureDownTo_28 (by decide) ?_
  refine z_aload2 dX8_captureDownTo_29 ?_
  refine z_callI zmd_X2_init rfl rfl zl_RX8_169 zin_X2_init (B_X2_init (d := d - 1) b3 w3 _ _ _ none none (some _) b2.newout i3 (fun b hb => by cases hb) (fun b hb => by cases hb) (fun b hb => by cases hb; exact ((zIn.self (n := 0) (Nat.le_trans b1.1 (by have := b1.2.1; omega)) : zIn b0 (znG (capG g (R 20) p (dp - p) (dp - p)) 7 0) (capG g (R 20) p (dp - p) (dp - p)).1 7).le k3)) (by omega)) rfl rfl (by omega) rfl dX8_captureDownTo_30 (fun r4 g4 f4 mc4 ms4 q4 => ?_)
  obtain ⟨rfl, rfl, rfl, hc4, hs4, w4, k4, b4⟩ := q4
  refine z_callV zmd_X10_push rfl (by decide) zl_RX8_172 zin_X10_push zsel_X10_push (B_X10_push (d := d - 1) b4 hF w4 _ (i3.le k4) (by show iv 100 (bnewRes (zup C 19 1 (C 19 1 - nI (dp - p))) 19 1); rw [bnewRes_r (by decide) (by decide)]; show iv 100 (C 19 1 - nI (dp - p)); rw [show C 19 1 - nI (dp - p) = nI p from by rw [ixS hdp rfl (by omega), show dp - (dp - p) = p by omega]]; exact iv_nI h3 (by decide)) (by omega)) (b4.i 19 rfl) rfl rfl (by omega) rfl dX8_captureDownTo_33 (fun r5 g5 f5 mc5 ms5 q5 => ?_)
  obtain ⟨rfl, rfl, rfl, hc5, hs5, w5, k5, b5⟩ := q5
  refine z_aload2 dX8_captureDownTo_36 ?_
  refine z_aret dX8_captureDownTo_37 rfl ?_ (Or.inl ⟨_, rfl⟩)
  exact ⟨rfl, rfl, rfl, by omega, by omega, w5, ((((k1.tr k2).tr k3).tr k4).tr k5), b5⟩
theorem zIn.nn {b0 : Nat} {g : zG} {a t : Nat} (h : zIn b0 g a t) : a ≠ g.1 := Nat.ne_of_lt h.2.1
theorem pA_r {g g' : zG} {a k : Nat} (h : g'.2.2.2 a = g.2.2.2 a) : pA g' a k = pA g a k := by unfold pA; rw [h]
set_option maxRecDepth 20000 in
set_option maxHeartbeats 400000 in
theorem B_X8_execute {l : Launch} {d : Nat} {D : zD} {b0 : Nat} {g : zG} {f C : zI} {R : zRf} {c : Nat} (hW : CW b0 g c) (hF : CF c R) (hw : zOK b0 zNo (gv c g R)) (x : Nat) (hx : zIn b0 g x 2) (h1 : g.2.2.2 x 1 = some (pA g x 1)) (hdp : iv 100 (C 19 1)) (hd : 2 ≤ d) : zM l d D b0 mX8_execute [.ref (c + 13), .ref x] (gv c g R) (cv c f C) (zCy b0 zNo c g none (bexe g R f C x).1 (bexe g R f C x).2.1 (bexe g R f C x).2.2.1 (bexe g R f C x).2.2.2 1 5) := by
  refine zM.start zmd_X8_execute (Nat.le_of_ble_eq_true rfl) ⟨rfl, rfl, trivial⟩ [some (.ref (c + 13)), some (.ref x)] rfl ?_
  refine z_aload0 dX8_execute_0 ?_
  refine zc_getF (j := 17) hW fl_RX8_31 rfl (by decide) (hF _ (List.mem_of_getElem? (i := 20) rfl)) dX8_execute_1 ?_
  refine z_aload1 dX8_execute_4 ?_
  refine zd_getI hW fl_RX8_116 hx (by decide) dX8_execute_5 ?_
  refine z_callV zmd_X3_execute rfl (by decide) zl_RX8_282 zin_X3_execute zsel_X3_execute (B_X3_execute (d := d - 1) hW hF hw _ (by omega)) (hW.i 21 rfl) rfl rfl (by omega) rfl dX8_execute_8 (fun r1 g1 f1 mc1 ms1 q1 => ?_)
  obtain ⟨rfl, rfl, rfl, hc1, hs1, w1, k1, b1⟩ := q1
  refine z_aload0 dX8_execute_11 ?_
  refine zc_getF (j := 17) b1 fl_RX8_24 rfl (by decide) (hF _ (List.mem_of_getElem? (i := 19) rfl)) dX8_execute_12 ?_
  refine zd_new w1 b1 zcls_X2 zc_RX8_104 zi_RX2 zini_RX2 (by decide) dX8_execute_15 (fun w2 k2 b2 i2 => ?_)
  refine z_dup dX8_execute_18 ?_
  refine z_bipush (v := 13) dX8_execute_19 (by decide) ?_
  refine z_null dX8_execute_21 ?_
  show zS _ _ _ _ _ _ _ 22 _ _ _ _ _
  refine z_null dX8_execute_22 ?_
  refine z_aload0 dX8_execute_23 ?_
  refine zc_getI (j := 17) b2 fl_RX8_64 rfl dX8_execute_24 ?_
  refine z_null dX8_execute_27 ?_
  refine z_callI zmd_X2_init rfl rfl zl_RX8_169 zin_X2_init (B_X2_init (d := d - 1) b2 w2 _ _ _ none none none b1.newout i2 (fun b hb => by cases hb) (fun b hb => by cases hb) (fun b hb => by cases hb) (by omega)) rfl rfl (by omega) rfl dX8_execute_28 (fun r3 g3 f3 mc3 ms3 q3 => ?_)
  obtain ⟨rfl, rfl, rfl, hc3, hs3, w3, k3, b3⟩ := q3
  refine z_callV zmd_X10_push rfl (by decide) zl_RX8_172 zin_X10_push zsel_X10_push (B_X10_push (d := d - 1) b3 hF w3 _ (i2.le k3) (by rw [bexec_r (by decide) (by decide)]; exact hdp) (by omega)) (b3.i 19 rfl) rfl rfl (by omega) rfl dX8_execute_31 (fun r4 g4 f4 mc4 ms4 q4 => ?_)
  obtain ⟨rfl, rfl, rfl, hc4, hs4, w4, k4, b4⟩ := q4
  refine z_aload0 dX8_execute_34 ?_
  refine z_aload1 dX8_execute_35 ?_
  refine zd_getS w4 b4 fl_RX8_108 ((((hx.le k1).le k2).le k3).le k4) (by decide) (by decide) ((congrFun (dFr_r hx.nn) 1).trans h1) dX8_execute_36 (fun i5 => ?_)
  refine zd_getN w4 b4 fl_RX8_221 i5 (by decide) (by decide) dX8_execute_39 (fun i6 => ?_)
  refine z_aload1 dX8_execute_42 ?_
  refine zd_getN w4 b4 fl_RX8_220 ((((hx.le k1).le k2).le k3).le k4) (by decide) (by decide) dX8_execute_43 (fun i7 => ?_)
  show zS _ _ _ _ _ _ _ 46 _ _ _ _ _
  refine z_callV zmd_X8_goTo rfl (by decide) zl_RX8_89 zin_X8_goTo zsel_X8_goTo (B_X8_goTo (d := d - 1) b4 (hF.push) w4 _ _ i6 i7) (b4.i 17 rfl) rfl rfl (by omega) rfl dX8_execute_46 (fun r8 g8 f8 mc8 ms8 q8 => ?_)
  obtain ⟨rfl, rfl, rfl, hc8, hs8, w8, k8, b8⟩ := q8
  refine z_ret dX8_execute_49 rfl ?_
  exact ⟨rfl, rfl, rfl, by omega, by omega, w8, ((((k1.tr k2).tr k3).tr k4).tr k8), b8⟩
theorem CF.exe {c : Nat} {g : zG} {R : zRf} {f C : zI} {x : Nat} (h : CF c R) : CF c (bexe g R f C x).2.1 := h.push.goTo
theorem CF.cap {c : Nat} {g : zG} {R : zRf} {f C : zI} {p n : Nat} (h : CF c R) : CF c (bcap g R f C p n).2.1 := h.push
theorem CF.gow {c : Nat} {R : zRf} (h : CF c R) : CF c (zup R 17 4 none) := h.up (by decide)
set_option maxRecDepth 20000 in
set_option maxHeartbeats 400000 in
theorem B_X8_call {l : Launch} {d : Nat} {D : zD} {b0 : Nat} {g : zG} {f C : zI} {R : zRf} {c : Nat} (hW : CW b0 g c) (hF : CF c R) (hw : zOK b0 zNo (gv c g R)) (p : Int32) (hd : 2 ≤ d) : zM l d D b0 mX8_call [.ref (c + 13), .int p] (gv c g R) (cv c f C) (zCy b0 zNo c g none (bcall g R f C p).1 (bcall g R f C p).2.1 (bcall g R f C p).2.2.1 (bcall g R f C p).2.2.2 1 4) := by
  refine zM.start zmd_X8_call (Nat.le_of_ble_eq_true rfl) ⟨rfl, rfl, trivial⟩ [some (.ref (c + 13)), some (.int p)] rfl ?_
  refine z_iload1 dX8_call_0 ?_
  refine z_callSNi zmd_X11_isProcedure (host := "EffectMachine") (by decide) zst_X11_isProcedure (K_X11_isProcedure (d := d - 1) _) rfl rfl (by omega) rfl dX8_call_1 ?_
  refine z_if_eq (tgt := 44) dX8_call_4 (by decide) (fun c4 => ?_) (fun c4 => ?_)
  · show zS _ _ _ _ _ _ _ 44 _ _ _ _ _
    refine z_ret dX8_call_44 rfl ?_
    rw [show bcall g R f C p = _ from if_neg (fun q => absurd q.1 (zB_f c4))]
    exact ⟨rfl, rfl, rfl, by omega, by omega, hw, zLe.rf, hW⟩
  · show zS _ _ _ _ _ _ _ 7 _ _ _ _ _
    have hp4 : iv 4 p := by
      obtain ⟨q1, q2⟩ := zB_t c4
      obtain ⟨j, h1, rfl⟩ := nI_of q1
      exact iv_nI ((nI_ltI (b := 4) h1 (by decide)).mp q2) (by decide)
    have hp5 := hp4.1
    refine z_aload0 dX8_call_7 ?_
    refine zc_getF (j := 17) hW fl_RX8_11 rfl (by decide) (hF _ (List.mem_of_getElem? (i := 18) rfl)) dX8_call_8 ?_
    refine z_iload1 dX8_call_11 ?_
    refine zc_ald (j := 18) (t' := 0) hw hW rfl (by decide) (by decide) hp4.2 (by omega) (fun _ => rfl) (by decide) dX8_call_12 (fun i2 => ?_)
    refine z_ifnull (tgt := 44) dX8_call_13 (by decide) (fun c13 => ?_) (fun a13 c13 => ?_)
    · show zS _ _ _ _ _ _ _ 44 _ _ _ _ _
      refine z_ret dX8_call_44 rfl ?_
      rw [show bcall g R f C p = _ from if_neg (fun q => absurd c13 q.2)]
      exact ⟨rfl, rfl, rfl, by omega, by omega, hw, zLe.rf, hW⟩
    · show zS _ _ _ _ _ _ _ 16 _ _ _ _ _
      have hbd : R 18 (tn p) = some ((R 18 (tn p)).getD 0) := by rw [c13]; rfl
      refine z_aload0 dX8_call_16 ?_
      refine z_aload0 dX8_call_17 ?_
      refine zc_getF (j := 17) hW fl_RX8_11 rfl (by decide) (hF _ (List.mem_of_getElem? (i := 18) rfl)) dX8_call_18 ?_
      refine z_iload1 dX8_call_21 ?_
      refine zc_alds (j := 18) (t' := 0) hw hW rfl (by decide) (by decide) hp4.2 (by omega) (fun _ => rfl) (by decide) hbd dX8_call_22 (fun i3 => ?_)
      refine zd_getFr hw hW fl_RX8_86 i3 (by decide) (fun h => h) (by decide) (by decide) dX8_call_23 (fun e4 i4 => ?_)
      refine zd_new hw hW zcls_X9 zc_RX8_180 zi_RX9 zini_RX9 (by decide) dX8_call_26 (fun w5 k5 b5 i5 => ?_)
      refine z_dup dX8_call_29 ?_
      refine z_bipush (v := 23) dX8_call_30 (by decide) ?_
      refine z_aload0 dX8_call_32 ?_
      refine zc_getI (j := 17) b5 fl_RX8_64 rfl dX8_call_33 ?_
      show zS _ _ _ _ _ _ _ 36 _ _ _ _ _
      refine z_null dX8_call_36 ?_
      refine z_null dX8_call_37 ?_
      refine z_callI zmd_X9_init rfl rfl zl_RX8_231 zin_X9_init (B_X9_init (d := d - 1) b5 w5 _ _ _ none none hW.newout i5 (fun b hb => by cases hb) (fun b hb => by cases hb) (by omega)) rfl rfl (by omega) rfl dX8_call_38 (fun r6 g6 f6 mc6 ms6 q6 => ?_)
      obtain ⟨rfl, rfl, rfl, hc6, hs6, w6, k6, b6⟩ := q6
      refine z_callV zmd_X8_goTo rfl (by decide) zl_RX8_89 zin_X8_goTo zsel_X8_goTo (B_X8_goTo (d := d - 1) b6 hF w6 (some _) (some _) (fun b hb => by cases hb; exact ((i4.le k5).le k6)) (fun b hb => by cases hb; exact (i5.le k6))) (b6.i 17 rfl) rfl rfl (by omega) rfl dX8_call_41 (fun r7 g7 f7 mc7 ms7 q7 => ?_)
      obtain ⟨rfl, rfl, rfl, hc7, hs7, w7, k7, b7⟩ := q7
      refine z_ret dX8_call_44 rfl ?_
      rw [show bcall g R f C p = _ from if_pos ⟨zB_t c4, (by rw [c13]; exact Option.some_ne_none _)⟩]
      exact ⟨rfl, rfl, rfl, by omega, by omega, w7, ((k5.tr k6).tr k7), b7⟩
theorem bclause_in {b0 : Nat} {g : zG} {R : zRf} {c : Nat} {X : Nat → Prop} (hw : zOK b0 X (gv c g R)) (hW : CW b0 g c) {e : Nat} {x : Int32} (hi : zIn b0 g e 1) (he : eOK g c e) : ∀ b, bclause g e x = some b → zIn b0 g b 1 := by
  intro b hb
  unfold bclause at hb
  cases h : g.2.2.2 e 5 with
  | none => rw [h] at hb; cases hb
  | some q =>
    rw [h] at hb
    simp only at hb
    by_cases c1 : ¬ x < 0 ∧ x < 7
    · rw [if_pos c1] at hb
      have hq : zIn b0 g q 14 := hw.get (t := 1) (k := 5) hi.gv rfl (by decide) (by rw [gv_out (hW.out hi (by decide))]; exact h)
      exact hw.get (t := 14) (k := tn x) hq.gv rfl (by decide) (by rw [gv_out (he.1 _ h).2]; exact hb)
    · rw [if_neg c1] at hb; cases hb
theorem eOK.new {g : zG} {c e t n : Nat} (h : eOK g c e) (he : e < g.1) (h5 : ∀ b, g.2.2.2 e 5 = some b → b < g.1) (h6 : ∀ b, g.2.2.2 e 6 = some b → b < g.1) : eOK (znG g t n) c e := by
  have e1 : (znG g t n).2.2.2 e = g.2.2.2 e := zu1_ne _ _ _ (Nat.ne_of_lt he)
  refine ⟨fun b hb => ?_, fun b hb => ?_⟩
  · rw [e1] at hb
    exact ⟨(zu1_ne _ _ _ (Nat.ne_of_lt (h5 b hb))).trans (h.1 b hb).1, (h.1 b hb).2⟩
  · rw [e1] at hb
    exact ⟨(zu1_ne _ _ _ (Nat.ne_of_lt (h6 b hb))).trans (h.2 b hb).1, (h.2 b hb).2⟩
set_option maxRecDepth 20000 in
set_option maxHeartbeats 400000 in
theorem B_X8_leaveHandler {l : Launch} {d : Nat} {D : zD} {b0 : Nat} {g : zG} {f C : zI} {R : zRf} {c : Nat} (hW : CW b0 g c) (hF : CF c R) (hw : zOK b0 zNo (gv c g R)) (h : Nat) (s : Option Nat) (hh : zIn b0 g h 1) (he : eOK g c h) (hs : ∀ b, s = some b → zIn b0 g b 9) (hd : 2 ≤ d) : zM l d D b0 mX8_leaveHandler [.ref (c + 13), .ref h, va_rf s] (gv c g R) (cv c f C) (zCy b0 zNo c g none (bleave g R f C h s).1 (bleave g R f C h s).2.1 (bleave g R f C h s).2.2.1 (bleave g R f C h s).2.2.2 1 4) := by
  refine zM.start zmd_X8_leaveHandler (Nat.le_of_ble_eq_true rfl) ⟨rfl, rfl, zcat_o _, trivial⟩ [some (.ref (c + 13)), some (.ref h), some (va_rf s), none] rfl ?_
  refine z_aload1 dX8_leaveHandler_0 ?_
  refine z_bipush (v := 6) dX8_leaveHandler_1 (by decide) ?_
  refine z_callV zmd_X1_clause rfl (by decide) zl_RX8_263 zin_X1_clause zsel_X1_clause (B_X1_clause (d := d - 1) hW hF hw _ _ hh he) hh rfl rfl (by omega) rfl dX8_leaveHandler_3 (fun r1 g1 f1 mc1 ms1 q1 => ?_)
  obtain ⟨rfl, rfl, rfl, rfl, rfl⟩ := q1
  refine z_ifnull (tgt := 43) dX8_leaveHandler_6 (by decide) (fun c6 => ?_) (fun a6 c6 => ?_)
  · show zS _ _ _ _ _ _ _ 43 _ _ _ _ _
    refine z_ret dX8_leaveHandler_43 rfl ?_
    rw [show bleave g R f C h s = _ from if_pos c6]
    exact ⟨rfl, rfl, rfl, by omega, by omega, hw, zLe.rf, hW⟩
  · show zS _ _ _ _ _ _ _ 9 _ _ _ _ _
    refine z_aload1 dX8_leaveHandler_9 ?_
    refine z_bipush (v := 6) dX8_leaveHandler_10 (by decide) ?_
    refine z_callVi zmd_X1_clauseVariable rfl (by decide) zl_RX8_260 zin_X1_clauseVariable zsel_X1_clauseVariable (B_X1_clauseVariable (d := d - 1) hW hF hw _ _ hh he) hh rfl rfl (by omega) rfl dX8_leaveHandler_12 ?_
    refine z_istore3 dX8_leaveHandler_15 ?_
    refine z_aload0 dX8_leaveHandler_16 ?_
    refine z_aload1 dX8_leaveHandler_17 ?_
    refine z_bipush (v := 6) dX8_leaveHandler_18 (by decide) ?_
    refine z_callV zmd_X1_clause rfl (by decide) zl_RX8_263 zin_X1_clause zsel_X1_clause (B_X1_clause (d := d - 1) hW hF hw _ _ hh he) hh rfl rfl (by omega) rfl dX8_leaveHandler_20 (fun r3 g3 f3 mc3 ms3 q3 => ?_)
    obtain ⟨rfl, rfl, rfl, rfl, rfl⟩ := q3
    refine zd_new hw hW zcls_X9 zc_RX8_180 zi_RX9 zini_RX9 (by decide) dX8_leaveHandler_23 (fun w4 k4 b4 i4 => ?_)
    refine z_dup dX8_leaveHandler_26 ?_
    refine z_iload3 dX8_leaveHandler_27 ?_
    show zS _ _ _ _ _ _ _ 28 _ _ _ _ _
    refine z_aload0 dX8_leaveHandler_28 ?_
    refine zc_getI (j := 17) b4 fl_RX8_64 rfl dX8_leaveHandler_29 ?_
    refine z_aload2 dX8_leaveHandler_32 ?_
    refine z_callS zmd_X9_resumptionIn zl_RX8_195 zst_X9_resumptionIn (B_X9_resumptionIn (d := d - 1) b4 hF w4 _ (fun b hb => (hs b hb).le k4)) rfl rfl (by omega) rfl dX8_leaveHandler_33 (fun r5 g5 f5 mc5 ms5 q5 => ?_) (by simp [zcat_o] <;> simp [Value.category])
    obtain ⟨rfl, rfl, rfl, rfl, rfl⟩ := q5
    refine z_aload2 dX8_leaveHandler_36 ?_
    refine z_callI zmd_X9_init rfl rfl zl_RX8_231 zin_X9_init (B_X9_init (d := d - 1) b4 w4 _ _ _ _ _ hW.newout i4 (fun b hb => bresIn_in w4 b4 (fun b hb => (hs b hb).le k4) b hb) (fun b hb => (hs b hb).le k4) (by omega)) rfl rfl (by omega) rfl dX8_leaveHandler_37 (fun r6 g6 f6 mc6 ms6 q6 => ?_) (by simp [zcat_o] <;> simp [Value.category])
    obtain ⟨rfl, rfl, rfl, hc6, hs6, w6, k6, b6⟩ := q6
    refine z_callV zmd_X8_goTo rfl (by decide) zl_RX8_89 zin_X8_goTo zsel_X8_goTo (B_X8_goTo (d := d - 1) b6 hF w6 _ (some _) (fun b hb => ((fun b hb => ((bclause_in hw hW hh he) b hb).le k4) b hb).le k6) (fun b hb => by cases hb; exact (i4.le k6))) (b6.i 17 rfl) rfl rfl (by omega) rfl dX8_leaveHandler_40 (fun r7 g7 f7 mc7 ms7 q7 => ?_)
    obtain ⟨rfl, rfl, rfl, hc7, hs7, w7, k7, b7⟩ := q7
    refine z_ret dX8_leaveHandler_43 rfl ?_
    rw [show bleave g R f C h s = _ from if_neg (by rw [c6]; exact Option.some_ne_none _)]
    exact ⟨rfl, rfl, rfl, by omega, by omega, w7, ((k4.tr k6).tr k7), b7⟩
theorem CF.call {c : Nat} {g : zG} {R : zRf} {f C : zI} {p : Int32} (h : CF c R) : CF c (bcall g R f C p).2.1 := by
  unfold bcall
  split
  · exact h.goTo
  · exact h
theorem CF.leave {c : Nat} {g : zG} {R : zRf} {f C : zI} {x : Nat} {s : Option Nat} (h : CF c R) : CF c (bleave g R f C x s).2.1 := by
  unfold bleave
  split
  · exact h
  · exact h.goTo
theorem CF.first {c : Nat} {g : zG} {R : zRf} {f C : zI} {r : Option Nat} (h : CF c R) : CF c (bfirst g f C R r).2.2 := by
  have H : ∀ (j : Nat) (C : zI) (R : zRf), CF c R → CF c (bfs g f j C R).2.2 := by
    intro j
    induction j with
    | zero => intro C R h; exact h
    | succ j ih =>
      intro C R h
      unfold bfs
      split
      · exact h
      · split
        · exact ih _ _ h
        · split
          · exact h
          · split
            · exact ih _ _ h.visit
            · exact ih _ _ h
  exact H _ _ _ h.visit
