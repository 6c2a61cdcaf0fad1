/-! The class's stack, ledger and scopes over the block. -/
/-- the stack: push, pop -/
def bpushC (C : zI) : zI :=
  let C1 := zup C 19 1 (C 19 1 + 1)
  zup C1 19 2 (if C1 19 2 < C1 19 1 then C1 19 1 else C1 19 2)
def bpopC (C : zI) : zI := if 0 < C 19 1 then zup C 19 1 (C 19 1 - 1) else C
def bbelow (C : zI) (R : zRf) (k : Int32) : Option Nat := if ¬ k < 0 ∧ k < C 19 1 then R 20 (tn (C 19 1 - 1 - k)) else none
set_option maxRecDepth 20000 in
set_option maxHeartbeats 400000 in
theorem B_X10_clear {l : Launch} {d : Nat} {D : zD} {b0 : Nat} {g : zG} {f C : zI} {R : zRf} {c : Nat} (hW : CW b0 g c) (hF : CF c R) (hw : zOK b0 zNo (gv c g R))  : zM l d D b0 mX10_clear [.ref (c + 15)] (gv c g R) (cv c f C) (zCy b0 zNo c g none g R f (zup (zup C 19 1 0) 19 2 0) 0 0) := by
  refine zM.start zmd_X10_clear (Nat.le_of_ble_eq_true rfl) ⟨rfl, trivial⟩ [some (.ref (c + 15))] rfl ?_
  refine z_aload0 dX10_clear_0 ?_
  refine z_iconst (v := 0) dX10_clear_1 (by decide) ?_
  refine zc_putI (j := 19) hW fl_RX10_17 rfl dX10_clear_2 ?_
  refine z_aload0 dX10_clear_5 ?_
  refine z_iconst (v := 0) dX10_clear_6 (by decide) ?_
  refine zc_putI (j := 19) hW fl_RX10_21 rfl dX10_clear_7 ?_
  refine z_ret dX10_clear_10 rfl ?_
  exact ⟨rfl, rfl, rfl, by omega, by omega, hw, zLe.rf, hW⟩
set_option maxRecDepth 20000 in
set_option maxHeartbeats 400000 in
theorem B_X10_hasRoomFor {l : Launch} {d : Nat} {D : zD} {b0 : Nat} {g : zG} {f C : zI} {R : zRf} {c : Nat} (hW : CW b0 g c) (hF : CF c R) (hw : zOK b0 zNo (gv c g R)) (x : Int32) : zM l d D b0 mX10_hasRoomFor [.ref (c + 15), .int x] (gv c g R) (cv c f C) (zEx (some (.int (zB (¬ 100 < C 19 1 + x)))) (gv c g R) (cv c f C)) := by
  refine zM.start zmd_X10_hasRoomFor (Nat.le_of_ble_eq_true rfl) ⟨rfl, rfl, trivial⟩ [some (.ref (c + 15)), some (.int x)] rfl ?_
  refine z_aload0 dX10_hasRoomFor_0 ?_
  refine zc_getI (j := 19) hW fl_RX10_17 rfl dX10_hasRoomFor_1 ?_
  refine z_iload1 dX10_hasRoomFor_4 ?_
  refine z_iadd dX10_hasRoomFor_5 ?_
  refine z_bipush (v := 100) dX10_hasRoomFor_6 (by decide) ?_
  refine z_icmp_gt (tgt := 15) dX10_hasRoomFor_8 (by decide) (fun c8 => ?_) (fun c8 => ?_)
  · show zS _ _ _ _ _ _ _ 15 _ _ _ _ _
    refine z_iconst (v := 0) dX10_hasRoomFor_15 (by decide) ?_
    refine z_iret dX10_hasRoomFor_16 rfl ?_
    refine ⟨congrArg (fun z => some (Value.int z)) ?_, rfl, rfl, rfl, rfl⟩
    first | exact (zB1 (by assumption)).symm | exact (zB0 (fun q => absurd (by assumption) q)).symm
  · show zS _ _ _ _ _ _ _ 11 _ _ _ _ _
    refine z_iconst (v := 1) dX10_hasRoomFor_11 (by decide) ?_
    refine z_goto (tgt := 16) dX10_hasRoomFor_12 (by decide) ?_
    show zS _ _ _ _ _ _ _ 16 _ _ _ _ _
    refine z_iret dX10_hasRoomFor_16 rfl ?_
    refine ⟨congrArg (fun z => some (Value.int z)) ?_, rfl, rfl, rfl, rfl⟩
    first | exact (zB1 (by assumption)).symm | exact (zB0 (fun q => absurd (by assumption) q)).symm
set_option maxRecDepth 20000 in
set_option maxHeartbeats 400000 in
theorem B_X10_push {l : Launch} {d : Nat} {D : zD} {b0 : Nat} {g : zG} {f C : zI} {R : zRf} {c : Nat} (hW : CW b0 g c) (hF : CF c R) (hw : zOK b0 zNo (gv c g R)) (x : Nat) (hx : zIn b0 g x 2) (hdp : iv 100 (C 19 1)) (hd : 1 ≤ d) : zM l d D b0 mX10_push [.ref (c + 15), .ref x] (gv c g R) (cv c f C) (zCy b0 zNo c g none g (zup R 20 (tn (C 19 1)) (some x)) f (bpushC C) 0 0) := by
  have hdp1 := hdp.1
  refine zM.start zmd_X10_push (Nat.le_of_ble_eq_true rfl) ⟨rfl, rfl, trivial⟩ [some (.ref (c + 15)), some (.ref x)] rfl ?_
  refine z_aload0 dX10_push_0 ?_
  refine zc_getI (j := 19) hW fl_RX10_17 rfl dX10_push_1 ?_
  refine z_aload0 dX10_push_4 ?_
  refine zc_getF (j := 19) hW fl_RX10_11 rfl (by decide) (hF _ (List.mem_of_getElem? (i := 24) rfl)) dX10_push_5 ?_
  refine zc_len (j := 20) hW rfl (by decide) dX10_push_8 ?_
  refine z_icmp_ge (tgt := 47) dX10_push_9 (by decide) (fun c9 => ?_) (fun c9 => ?_)
  · exact absurd (by rw [hdp.2]; exact nI_lt (b := 100) (by omega) (by decide)) c9
  · show zS _ _ _ _ _ _ _ 12 _ _ _ _ _
    refine z_aload0 dX10_push_12 ?_
    refine zc_getF (j := 19) hW fl_RX10_11 rfl (by decide) (hF _ (List.mem_of_getElem? (i := 24) rfl)) dX10_push_13 ?_
    refine z_aload0 dX10_push_16 ?_
    refine zc_getI (j := 19) hW fl_RX10_17 rfl dX10_push_17 ?_
    refine z_aload1 dX10_push_20 ?_
    refine zc_asts (j := 20) (t' := 2) hw hW rfl (by decide) (by decide) hdp.2 (by omega) (fun _ => rfl) hx dX10_push_21 (fun w1 => ?_)
    refine z_aload0 dX10_push_22 ?_
    refine z_dup dX10_push_23 ?_
    refine zc_getI (j := 19) hW fl_RX10_17 rfl dX10_push_24 ?_
    refine z_iconst (v := 1) dX10_push_27 (by decide) ?_
    refine z_iadd dX10_push_28 ?_
    show zS _ _ _ _ _ _ _ 29 _ _ _ _ _
    refine zc_putI (j := 19) hW fl_RX10_17 rfl dX10_push_29 ?_
    refine z_aload0 dX10_push_32 ?_
    refine z_aload0 dX10_push_33 ?_
    refine zc_getI (j := 19) hW fl_RX10_21 rfl dX10_push_34 ?_
    refine z_aload0 dX10_push_37 ?_
    refine zc_getI (j := 19) hW fl_RX10_17 rfl dX10_push_38 ?_
    refine z_max zl_RX10_24 zst_J9_max_7cf53 zini_RJ9 zcd_J9_max_7cf53 rfl (by omega) dX10_push_41 ?_
    refine zc_putI (j := 19) hW fl_RX10_21 rfl dX10_push_44 ?_
    refine z_ret dX10_push_47 rfl ?_
    exact ⟨rfl, rfl, rfl, by omega, by omega, w1, zLe.rf, hW⟩
set_option maxRecDepth 20000 in
set_option maxHeartbeats 400000 in
theorem B_X10_pop {l : Launch} {d : Nat} {D : zD} {b0 : Nat} {g : zG} {f C : zI} {R : zRf} {c : Nat} (hW : CW b0 g c) (hF : CF c R) (hw : zOK b0 zNo (gv c g R))  : zM l d D b0 mX10_pop [.ref (c + 15)] (gv c g R) (cv c f C) (zCy b0 zNo c g none g R f (bpopC C) 0 0) := by
  refine zM.start zmd_X10_pop (Nat.le_of_ble_eq_true rfl) ⟨rfl, trivial⟩ [some (.ref (c + 15))] rfl ?_
  refine z_aload0 dX10_pop_0 ?_
  refine zc_getI (j := 19) hW fl_RX10_17 rfl dX10_pop_1 ?_
  refine z_if_le (tgt := 17) dX10_pop_4 (by decide) (fun c4 => ?_) (fun c4 => ?_)
  · show zS _ _ _ _ _ _ _ 17 _ _ _ _ _
    refine z_ret dX10_pop_17 rfl ?_
    first | rw [show bpopC C = _ from if_pos (by assumption)] | rw [show bpopC C = C from if_neg (by assumption)]
    exact ⟨rfl, rfl, rfl, by omega, by omega, hw, zLe.rf, hW⟩
  · show zS _ _ _ _ _ _ _ 7 _ _ _ _ _
    refine z_aload0 dX10_pop_7 ?_
    refine z_dup dX10_pop_8 ?_
    refine zc_getI (j := 19) hW fl_RX10_17 rfl dX10_pop_9 ?_
    refine z_iconst (v := 1) dX10_pop_12 (by decide) ?_
    refine z_isub dX10_pop_13 ?_
    refine zc_putI (j := 19) hW fl_RX10_17 rfl dX10_pop_14 ?_
    refine z_ret dX10_pop_17 rfl ?_
    first | rw [show bpopC C = _ from if_pos (by assumption)] | rw [show bpopC C = C from if_neg (by assumption)]
    exact ⟨rfl, rfl, rfl, by omega, by omega, hw, zLe.rf, hW⟩
set_option maxRecDepth 20000 in
set_option maxHeartbeats 400000 in
theorem B_X10_below {l : Launch} {d : Nat} {D : zD} {b0 : Nat} {g : zG} {f C : zI} {R : zRf} {c : Nat} (hW : CW b0 g c) (hF : CF c R) (hw : zOK b0 zNo (gv c g R)) (k : Int32) (hdp : iv 101 (C 19 1)) : zM l d D b0 mX10_below [.ref (c + 15), .int k] (gv c g R) (cv c f C) (zEx (some (va_rf (bbelow C R k))) (gv c g R) (cv c f C)) := by
  have hdp1 := hdp.1
  refine zM.start zmd_X10_below (Nat.le_of_ble_eq_true rfl) ⟨rfl, rfl, trivial⟩ [some (.ref (c + 15)), some (.int k)] rfl ?_
  refine z_iload1 dX10_below_0 ?_
  refine z_if_lt (tgt := 28) dX10_below_1 (by decide) (fun c1 => ?_) (fun c1 => ?_)
  · show zS _ _ _ _ _ _ _ 28 _ _ _ _ _
    refine z_null dX10_below_28 ?_
    refine z_aret dX10_below_29 rfl ?_ (Or.inl ⟨_, rfl⟩)
    first
      | (refine ⟨congrArg (fun z => some (va_rf z)) (show _ = bbelow C R k from ?_), rfl, rfl, rfl, rfl⟩; first | exact (if_pos ⟨hk0, by assumption⟩).symm | exact (if_neg (fun q => absurd (by assumption) q.1)).symm | exact (if_neg (fun q => absurd q.2 (by assumption))).symm)
      | (refine ⟨congrArg (fun z => some (va_rf z)) (show none = bbelow C R k from ?_), rfl, rfl, rfl, rfl⟩; first | exact (if_pos ⟨hk0, by assumption⟩).symm | exact (if_neg (fun q => absurd (by assumption) q.1)).symm | exact (if_neg (fun q => absurd q.2 (by assumption))).symm)
  · show zS _ _ _ _ _ _ _ 4 _ _ _ _ _
    refine z_iload1 dX10_below_4 ?_
    refine z_aload0 dX10_below_5 ?_
    refine zc_getI (j := 19) hW fl_RX10_17 rfl dX10_below_6 ?_
    refine z_icmp_ge (tgt := 28) dX10_below_9 (by decide) (fun c9 => ?_) (fun c9 => ?_)
    · show zS _ _ _ _ _ _ _ 28 _ _ _ _ _
      refine z_null dX10_below_28 ?_
      refine z_aret dX10_below_29 rfl ?_ (Or.inl ⟨_, rfl⟩)
      first
        | (refine ⟨congrArg (fun z => some (va_rf z)) (show _ = bbelow C R k from ?_), rfl, rfl, rfl, rfl⟩; first | exact (if_pos ⟨hk0, by assumption⟩).symm | exact (if_neg (fun q => absurd (by assumption) q.1)).symm | exact (if_neg (fun q => absurd q.2 (by assumption))).symm)
        | (refine ⟨congrArg (fun z => some (va_rf z)) (show none = bbelow C R k from ?_), rfl, rfl, rfl, rfl⟩; first | exact (if_pos ⟨hk0, by assumption⟩).symm | exact (if_neg (fun q => absurd (by assumption) q.1)).symm | exact (if_neg (fun q => absurd q.2 (by assumption))).symm)
    · show zS _ _ _ _ _ _ _ 12 _ _ _ _ _
      have hk0 : ¬ k < 0 := c1
      obtain ⟨q, hq1, hq2⟩ := nI_of hk0
      have hqd : q < tn (C 19 1) := by
        have e := c9
        rw [hq2, hdp.2] at e
        exact (nI_ltI hq1 (by omega)).mp e
      have hix : C 19 1 - 1 - k = nI (tn (C 19 1) - 1 - q) := by
        rw [hq2]
        exact ixS (ixS hdp.2 (ixC 1) (by omega)) rfl (by omega)
      have hte : tn (C 19 1 - 1 - k) = tn (C 19 1) - 1 - q := by rw [hix]; exact tn_nI (by omega)
      refine z_aload0 dX10_below_12 ?_
      refine zc_getF (j := 19) hW fl_RX10_11 rfl (by decide) (hF _ (List.mem_of_getElem? (i := 24) rfl)) dX10_below_13 ?_
      refine z_aload0 dX10_below_16 ?_
      refine zc_getI (j := 19) hW fl_RX10_17 rfl dX10_below_17 ?_
      refine z_iconst (v := 1) dX10_below_20 (by decide) ?_
      refine z_isub dX10_below_21 ?_
      refine z_iload1 dX10_below_22 ?_
      refine z_isub dX10_below_23 ?_
      refine zc_ald (j := 20) (t' := 2) hw hW rfl (by decide) (by decide) (hix.trans (by rw [hte]) : C 19 1 - 1 - k = nI (tn (C 19 1 - 1 - k))) (by omega) (fun _ => rfl) (by decide) dX10_below_24 (fun i1 => ?_)
      refine z_goto (tgt := 29) dX10_below_25 (by decide) ?_
      show zS _ _ _ _ _ _ _ 29 _ _ _ _ _
      refine z_aret dX10_below_29 rfl ?_ (Or.inl ⟨_, rfl⟩)
      first
        | (refine ⟨congrArg (fun z => some (va_rf z)) (show _ = bbelow C R k from ?_), rfl, rfl, rfl, rfl⟩; first | exact (if_pos ⟨hk0, by assumption⟩).symm | exact (if_neg (fun q => absurd (by assumption) q.1)).symm | exact (if_neg (fun q => absurd q.2 (by assumption))).symm)
        | (refine ⟨congrArg (fun z => some (va_rf z)) (show none = bbelow C R k from ?_), rfl, rfl, rfl, rfl⟩; first | exact (if_pos ⟨hk0, by assumption⟩).symm | exact (if_neg (fun q => absurd (by assumption) q.1)).symm | exact (if_neg (fun q => absurd q.2 (by assumption))).symm)
set_option maxRecDepth 20000 in
set_option maxHeartbeats 400000 in
theorem B_X3_clear {l : Launch} {d : Nat} {D : zD} {b0 : Nat} {g : zG} {f C : zI} {R : zRf} {c : Nat} (hW : CW b0 g c) (hF : CF c R) (hw : zOK b0 zNo (gv c g R))  : zM l d D b0 mX3_clear [.ref (c + 17)] (gv c g R) (cv c f C) (zCy b0 zNo c g none g R f (zup (zup (zup (zup (zup C 21 1 0) 21 2 0) 21 3 0) 21 5 0) 21 6 0) 0 0) := by
  refine zM.start zmd_X3_clear (Nat.le_of_ble_eq_true rfl) ⟨rfl, trivial⟩ [some (.ref (c + 17))] rfl ?_
  refine z_aload0 dX3_clear_0 ?_
  refine z_iconst (v := 0) dX3_clear_1 (by decide) ?_
  refine zc_putI (j := 21) hW fl_RX3_18 rfl dX3_clear_2 ?_
  refine z_aload0 dX3_clear_5 ?_
  refine z_iconst (v := 0) dX3_clear_6 (by decide) ?_
  refine zc_putI (j := 21) hW fl_RX3_22 rfl dX3_clear_7 ?_
  refine z_aload0 dX3_clear_10 ?_
  refine z_iconst (v := 0) dX3_clear_11 (by decide) ?_
  refine zc_putI (j := 21) hW fl_RX3_25 rfl dX3_clear_12 ?_
  refine z_aload0 dX3_clear_15 ?_
  refine z_iconst (v := 0) dX3_clear_16 (by decide) ?_
  show zS _ _ _ _ _ _ _ 17 _ _ _ _ _
  refine zc_putI (j := 21) hW fl_RX3_28 rfl dX3_clear_17 ?_
  refine z_aload0 dX3_clear_20 ?_
  refine z_iconst (v := 0) dX3_clear_21 (by decide) ?_
  refine zc_putI (j := 21) hW fl_RX3_31 rfl dX3_clear_22 ?_
  refine z_ret dX3_clear_25 rfl ?_
  exact ⟨rfl, rfl, rfl, by omega, by omega, hw, zLe.rf, hW⟩
def bst (C : zI) (j : Nat) (x y : Int32) : zI := if ¬ x < 0 ∧ x < 1000 then zup C j (tn x) y else C
def bnewRes (C : zI) : zI := let C1 := bst C 22 (C 21 1) 0; zup C1 21 1 (C1 21 1 + 1)
def bnewFin (C : zI) : zI := let C1 := bst C 23 (C 21 5) 0; zup C1 21 5 (C1 21 5 + 1)
def bexec (C : zI) (x : Int32) : zI := bst (zup C 21 6 (C 21 6 + 1)) 23 x 1
def bexecd (C : zI) (x : Int32) : Int32 := if ¬ x < 0 ∧ x < 1000 then C 23 (tn x) else 0
def buses (C : zI) (f : zI) (r : Option Nat) : Int32 := match r with
  | none => 0
  | some b => if ¬ f b 0 < 0 ∧ f b 0 < 1000 then C 22 (tn (f b 0)) else 0
def buse (C f : zI) (r : Nat) : zI :=
  let C1 := zup C 21 2 (C 21 2 + 1)
  if ¬ f r 0 < 0 ∧ f r 0 < 1000 then
    (let C2 := zup C1 22 (tn (f r 0)) (C1 22 (tn (f r 0)) + 1)
     if C2 22 (tn (f r 0)) = 2 then zup C2 21 3 (C2 21 3 + 1) else C2)
  else C1
/-- a resumption, a frame, a scope are made -/
def dRes (g : zG) (cp : Nat) : zG := zpR (znG g 7 0) g.1 1 (some cp)
def dResF (g : zG) (f : zI) (x : Int32) : zI := zup (znI g f) g.1 0 x
def dFr (g : zG) (e s r : Option Nat) : zG := zpR (zpR (zpR (znG g 2 0) g.1 1 e) g.1 2 s) g.1 4 r
def dFrF (g : zG) (f : zI) (k y : Int32) : zI := zup (zup (znI g f) g.1 0 k) g.1 3 y
def dSc (g : zG) (r s : Option Nat) : zG := zpR (zpR (znG g 9 0) g.1 2 r) g.1 3 s
def dScF (g : zG) (f : zI) (x y : Int32) : zI := zup (zup (znI g f) g.1 0 x) g.1 1 y
set_option maxRecDepth 20000 in
set_option maxHeartbeats 400000 in
theorem B_X3_newFinalizer {l : Launch} {d : Nat} {D : zD} {b0 : Nat} {g : zG} {f C : zI} {R : zRf} {c : Nat} (hW : CW b0 g c) (hF : CF c R) (hw : zOK b0 zNo (gv c g R))  (hd : 1 ≤ d) : zM l d D b0 mX3_newFinalizer [.ref (c + 17)] (gv c g R) (cv c f C) (zCy b0 zNo c g (some (.int (C 21 5))) g R f (bnewFin C) 0 0) := by
  refine zM.start zmd_X3_newFinalizer (Nat.le_of_ble_eq_true rfl) ⟨rfl, trivial⟩ [some (.ref (c + 17)), none] rfl ?_
  refine z_aload0 dX3_newFinalizer_0 ?_
  refine zc_getI (j := 21) hW fl_RX3_28 rfl dX3_newFinalizer_1 ?_
  refine z_istore1 dX3_newFinalizer_4 ?_
  refine z_iload1 dX3_newFinalizer_5 ?_
  refine z_callSi zmd_X3_isPlace zl_RX3_51 zst_X3_isPlace (K_X3_isPlace (d := d - 1) _) rfl rfl (by omega) rfl dX3_newFinalizer_6 ?_
  refine z_if_eq (tgt := 19) dX3_newFinalizer_9 (by decide) (fun c9 => ?_) (fun c9 => ?_)
  · show zS _ _ _ _ _ _ _ 19 _ _ _ _ _
    try have hpl := kplace_f c9
    refine z_aload0 dX3_newFinalizer_19 ?_
    refine z_dup dX3_newFinalizer_20 ?_
    refine zc_getI (j := 21) hW fl_RX3_28 rfl dX3_newFinalizer_21 ?_
    refine z_iconst (v := 1) dX3_newFinalizer_24 (by decide) ?_
    refine z_iadd dX3_newFinalizer_25 ?_
    refine zc_putI (j := 21) hW fl_RX3_28 rfl dX3_newFinalizer_26 ?_
    refine z_iload1 dX3_newFinalizer_29 ?_
    refine z_iret dX3_newFinalizer_30 rfl ?_
    first
      | (rw [show bnewFin C = _ from congrArg (fun z : zI => zup z 21 5 (z 21 5 + 1)) (if_pos hpl)]; exact ⟨rfl, rfl, rfl, by omega, by omega, hw, zLe.rf, hW⟩)
      | (rw [show bnewFin C = _ from congrArg (fun z : zI => zup z 21 5 (z 21 5 + 1)) (if_neg hpl)]; exact ⟨rfl, rfl, rfl, by omega, by omega, hw, zLe.rf, hW⟩)
  · show zS _ _ _ _ _ _ _ 12 _ _ _ _ _
    have hpl := kplace_t c9
    have hpi := hpl.iv
    have hpi1 := hpi.1
    refine z_aload0 dX3_newFinalizer_12 ?_
    refine zc_getF (j := 21) hW fl_RX3_15 rfl (by decide) (hF _ (List.mem_of_getElem? (i := 26) rfl)) dX3_newFinalizer_13 ?_
    refine z_iload1 dX3_newFinalizer_16 ?_
    refine z_iconst (v := 0) dX3_newFinalizer_17 (by decide) ?_
    refine zc_st (j := 23) hW rfl (by decide) hpi.2 (by omega) dX3_newFinalizer_18 ?_
    try have hpl := kplace_f c9
    refine z_aload0 dX3_newFinalizer_19 ?_
    refine z_dup dX3_newFinalizer_20 ?_
    refine zc_getI (j := 21) hW fl_RX3_28 rfl dX3_newFinalizer_21 ?_
    refine z_iconst (v := 1) dX3_newFinalizer_24 (by decide) ?_
    refine z_iadd dX3_newFinalizer_25 ?_
    refine zc_putI (j := 21) hW fl_RX3_28 rfl dX3_newFinalizer_26 ?_
    show zS _ _ _ _ _ _ _ 29 _ _ _ _ _
    refine z_iload1 dX3_newFinalizer_29 ?_
    refine z_iret dX3_newFinalizer_30 rfl ?_
    first
      | (rw [show bnewFin C = _ from congrArg (fun z : zI => zup z 21 5 (z 21 5 + 1)) (if_pos hpl)]; exact ⟨rfl, rfl, rfl, by omega, by omega, hw, zLe.rf, hW⟩)
      | (rw [show bnewFin C = _ from congrArg (fun z : zI => zup z 21 5 (z 21 5 + 1)) (if_neg hpl)]; exact ⟨rfl, rfl, rfl, by omega, by omega, hw, zLe.rf, hW⟩)
set_option maxRecDepth 20000 in
set_option maxHeartbeats 400000 in
theorem B_X3_execute {l : Launch} {d : Nat} {D : zD} {b0 : Nat} {g : zG} {f C : zI} {R : zRf} {c : Nat} (hW : CW b0 g c) (hF : CF c R) (hw : zOK b0 zNo (gv c g R)) (x : Int32) (hd : 1 ≤ d) : zM l d D b0 mX3_execute [.ref (c + 17), .int x] (gv c g R) (cv c f C) (zCy b0 zNo c g none g R f (bexec C x) 0 0) := by
  refine zM.start zmd_X3_execute (Nat.le_of_ble_eq_true rfl) ⟨rfl, rfl, trivial⟩ [some (.ref (c + 17)), some (.int x)] rfl ?_
  refine z_aload0 dX3_execute_0 ?_
  refine z_dup dX3_execute_1 ?_
  refine zc_getI (j := 21) hW fl_RX3_31 rfl dX3_execute_2 ?_
  refine z_iconst (v := 1) dX3_execute_5 (by decide) ?_
  refine z_iadd dX3_execute_6 ?_
  refine zc_putI (j := 21) hW fl_RX3_31 rfl dX3_execute_7 ?_
  refine z_iload1 dX3_execute_10 ?_
  refine z_callSi zmd_X3_isPlace zl_RX3_51 zst_X3_isPlace (K_X3_isPlace (d := d - 1) _) rfl rfl (by omega) rfl dX3_execute_11 ?_
  refine z_if_eq (tgt := 24) dX3_execute_14 (by decide) (fun c14 => ?_) (fun c14 => ?_)
  · show zS _ _ _ _ _ _ _ 24 _ _ _ _ _
    try have hpl := kplace_f c14
    refine z_ret dX3_execute_24 rfl ?_
    first
      | (rw [show bexec C x = _ from congrArg (fun z : zI => z) (if_pos hpl)]; exact ⟨rfl, rfl, rfl, by omega, by omega, hw, zLe.rf, hW⟩)
      | (rw [show bexec C x = _ from congrArg (fun z : zI => z) (if_neg hpl)]; exact ⟨rfl, rfl, rfl, by omega, by omega, hw, zLe.rf, hW⟩)
  · show zS _ _ _ _ _ _ _ 17 _ _ _ _ _
    have hpl := kplace_t c14
    have hpi := hpl.iv
    have hpi1 := hpi.1
    refine z_aload0 dX3_execute_17 ?_
    refine zc_getF (j := 21) hW fl_RX3_15 rfl (by decide) (hF _ (List.mem_of_getElem? (i := 26) rfl)) dX3_execute_18 ?_
    refine z_iload1 dX3_execute_21 ?_
    refine z_iconst (v := 1) dX3_execute_22 (by decide) ?_
    refine zc_st (j := 23) hW rfl (by decide) hpi.2 (by omega) dX3_execute_23 ?_
    try have hpl := kplace_f c14
    refine z_ret dX3_execute_24 rfl ?_
    first
      | (rw [show bexec C x = _ from congrArg (fun z : zI => z) (if_pos hpl)]; exact ⟨rfl, rfl, rfl, by omega, by omega, hw, zLe.rf, hW⟩)
      | (rw [show bexec C x = _ from congrArg (fun z : zI => z) (if_neg hpl)]; exact ⟨rfl, rfl, rfl, by omega, by omega, hw, zLe.rf, hW⟩)
set_option maxRecDepth 20000 in
set_option maxHeartbeats 400000 in
theorem B_X3_executed {l : Launch} {d : Nat} {D : zD} {b0 : Nat} {g : zG} {f C : zI} {R : zRf} {c : Nat} (hW : CW b0 g c) (hF : CF c R) (hw : zOK b0 zNo (gv c g R)) (x : Int32) (hd : 1 ≤ d) : zM l d D b0 mX3_executed [.ref (c + 17), .int x] (gv c g R) (cv c f C) (zEx (some (.int (bexecd C x))) (gv c g R) (cv c f C)) := by
  refine zM.start zmd_X3_executed (Nat.le_of_ble_eq_true rfl) ⟨rfl, rfl, trivial⟩ [some (.ref (c + 17)), some (.int x)] rfl ?_
  refine z_iload1 dX3_executed_0 ?_
  refine z_callSi zmd_X3_isPlace zl_RX3_51 zst_X3_isPlace (K_X3_isPlace (d := d - 1) _) rfl rfl (by omega) rfl dX3_executed_1 ?_
  refine z_if_eq (tgt := 16) dX3_executed_4 (by decide) (fun c4 => ?_) (fun c4 => ?_)
  · show zS _ _ _ _ _ _ _ 16 _ _ _ _ _
    refine z_iconst (v := 0) dX3_executed_16 (by decide) ?_
    refine z_iret dX3_executed_17 rfl ?_
    refine ⟨congrArg (fun z => some (Value.int z)) ?_, rfl, rfl, rfl, rfl⟩
    first | exact (if_pos (kplace_t c4)).symm | exact (if_neg (kplace_f c4)).symm
  · show zS _ _ _ _ _ _ _ 7 _ _ _ _ _
    have hpl := kplace_t c4
    have hpi := hpl.iv
    have hpi1 := hpi.1
    refine z_aload0 dX3_executed_7 ?_
    refine zc_getF (j := 21) hW fl_RX3_15 rfl (by decide) (hF _ (List.mem_of_getElem? (i := 26) rfl)) dX3_executed_8 ?_
    refine z_iload1 dX3_executed_11 ?_
    refine zc_ld (j := 23) hW rfl (by decide) hpi.2 (by omega) dX3_executed_12 ?_
    refine z_goto (tgt := 17) dX3_executed_13 (by decide) ?_
    show zS _ _ _ _ _ _ _ 17 _ _ _ _ _
    refine z_iret dX3_executed_17 rfl ?_
    refine ⟨congrArg (fun z => some (Value.int z)) ?_, rfl, rfl, rfl, rfl⟩
    first | exact (if_pos (kplace_t c4)).symm | exact (if_neg (kplace_f c4)).symm
set_option maxRecDepth 20000 in
set_option maxHeartbeats 400000 in
theorem B_X3_usesOf {l : Launch} {d : Nat} {D : zD} {b0 : Nat} {g : zG} {f C : zI} {R : zRf} {c : Nat} (hW : CW b0 g c) (hF : CF c R) (hw : zOK b0 zNo (gv c g R)) (r : Option Nat) (hr : ∀ b, r = some b → zIn b0 g b 7) (hd : 1 ≤ d) : zM l d D b0 mX3_usesOf [.ref (c + 17), va_rf r] (gv c g R) (cv c f C) (zEx (some (.int (buses C f r))) (gv c g R) (cv c f C)) := by
  refine zM.start zmd_X3_usesOf (Nat.le_of_ble_eq_true rfl) ⟨rfl, zcat_o _, trivial⟩ [some (.ref (c + 17)), some (va_rf r)] rfl ?_
  refine z_aload1 dX3_usesOf_0 ?_
  refine z_ifnull (tgt := 26) dX3_usesOf_1 (by decide) (fun c1 => ?_) (fun a1 c1 => ?_)
  · show zS _ _ _ _ _ _ _ 26 _ _ _ _ _
    refine z_iconst (v := 0) dX3_usesOf_26 (by decide) ?_
    refine z_iret dX3_usesOf_27 rfl ?_
    refine ⟨congrArg (fun z => some (Value.int z)) ?_, rfl, rfl, rfl, rfl⟩
    first | (subst c1; rfl) | exact (if_pos (kplace_t c11)).symm | exact (if_neg (kplace_f c11)).symm
  · show zS _ _ _ _ _ _ _ 4 _ _ _ _ _
    subst c1
    have hb := hr _ rfl
    refine z_aload1 dX3_usesOf_4 ?_
    refine zd_getI hW fl_RX3_55 hb (by decide) dX3_usesOf_5 ?_
    refine z_callSi zmd_X3_isPlace zl_RX3_51 zst_X3_isPlace (K_X3_isPlace (d := d - 1) _) rfl rfl (by omega) rfl dX3_usesOf_8 ?_
    refine z_if_eq (tgt := 26) dX3_usesOf_11 (by decide) (fun c11 => ?_) (fun c11 => ?_)
    · show zS _ _ _ _ _ _ _ 26 _ _ _ _ _
      refine z_iconst (v := 0) dX3_usesOf_26 (by decide) ?_
      refine z_iret dX3_usesOf_27 rfl ?_
      refine ⟨congrArg (fun z => some (Value.int z)) ?_, rfl, rfl, rfl, rfl⟩
      first | (subst c1; rfl) | exact (if_pos (kplace_t c11)).symm | exact (if_neg (kplace_f c11)).symm
    · show zS _ _ _ _ _ _ _ 14 _ _ _ _ _
      have hpl := kplace_t c11
      have hpi := hpl.iv
      have hpi1 := hpi.1
      refine z_aload0 dX3_usesOf_14 ?_
      refine zc_getF (j := 21) hW fl_RX3_9 rfl (by decide) (hF _ (List.mem_of_getElem? (i := 25) rfl)) dX3_usesOf_15 ?_
      refine z_aload1 dX3_usesOf_18 ?_
      refine zd_getI hW fl_RX3_55 hb (by decide) dX3_usesOf_19 ?_
      refine zc_ld (j := 22) hW rfl (by decide) hpi.2 (by omega) dX3_usesOf_22 ?_
      refine z_goto (tgt := 27) dX3_usesOf_23 (by decide) ?_
      show zS _ _ _ _ _ _ _ 27 _ _ _ _ _
      refine z_iret dX3_usesOf_27 rfl ?_
      refine ⟨congrArg (fun z => some (Value.int z)) ?_, rfl, rfl, rfl, rfl⟩
      first | (subst c1; rfl) | exact (if_pos (kplace_t c11)).symm | exact (if_neg (kplace_f c11)).symm
set_option maxRecDepth 20000 in
set_option maxHeartbeats 400000 in
theorem B_X3_use {l : Launch} {d : Nat} {D : zD} {b0 : Nat} {g : zG} {f C : zI} {R : zRf} {c : Nat} (hW : CW b0 g c) (hF : CF c R) (hw : zOK b0 zNo (gv c g R)) (r : Nat) (hr : zIn b0 g r 7) (hd : 1 ≤ d) : zM l d D b0 mX3_use [.ref (c + 17), .ref r] (gv c g R) (cv c f C) (zCy b0 zNo c g none g R f (buse C f r) 0 0) := by
  refine zM.start zmd_X3_use (Nat.le_of_ble_eq_true rfl) ⟨rfl, rfl, trivial⟩ [some (.ref (c + 17)), some (.ref r)] rfl ?_
  refine z_aload0 dX3_use_0 ?_
  refine z_dup dX3_use_1 ?_
  refine zc_getI (j := 21) hW fl_RX3_22 rfl dX3_use_2 ?_
  refine z_iconst (v := 1) dX3_use_5 (by decide) ?_
  refine z_iadd dX3_use_6 ?_
  refine zc_putI (j := 21) hW fl_RX3_22 rfl dX3_use_7 ?_
  refine z_aload1 dX3_use_10 ?_
  refine zd_getI hW fl_RX3_55 hr (by decide) dX3_use_11 ?_
  refine z_callSi zmd_X3_isPlace zl_RX3_51 zst_X3_isPlace (K_X3_isPlace (d := d - 1) _) rfl rfl (by omega) rfl dX3_use_14 ?_
  refine z_if_eq (tgt := 56) dX3_use_17 (by decide) (fun c17 => ?_) (fun c17 => ?_)
  · show zS _ _ _ _ _ _ _ 56 _ _ _ _ _
    refine z_ret dX3_use_56 rfl ?_
    first
      | (rw [show buse C f r = _ from (if_pos (kplace_t c17)).trans (if_pos c43)]; exact ⟨rfl, rfl, rfl, by omega, by omega, hw, zLe.rf, hW⟩)
      | (rw [show buse C f r = _ from (if_pos (kplace_t c17)).trans (if_neg c43)]; exact ⟨rfl, rfl, rfl, by omega, by omega, hw, zLe.rf, hW⟩)
      | (rw [show buse C f r = _ from if_neg (kplace_f c17)]; exact ⟨rfl, rfl, rfl, by omega, by omega, hw, zLe.rf, hW⟩)
  · show zS _ _ _ _ _ _ _ 20 _ _ _ _ _
    have hpl := kplace_t c17
    have hpi := hpl.iv
    have hpi1 := hpi.1
    refine z_aload0 dX3_use_20 ?_
    refine zc_getF (j := 21) hW fl_RX3_9 rfl (by decide) (hF _ (List.mem_of_getElem? (i := 25) rfl)) dX3_use_21 ?_
    refine z_aload1 dX3_use_24 ?_
    refine zd_getI hW fl_RX3_55 hr (by decide) dX3_use_25 ?_
    refine z_dup2 dX3_use_28 ?_
    refine zc_ld (j := 22) hW rfl (by decide) hpi.2 (by omega) dX3_use_29 ?_
    refine z_iconst (v := 1) dX3_use_30 (by decide) ?_
    refine z_iadd dX3_use_31 ?_
    refine zc_st (j := 22) hW rfl (by decide) hpi.2 (by omega) dX3_use_32 ?_
    refine z_aload0 dX3_use_33 ?_
    refine zc_getF (j := 21) hW fl_RX3_9 rfl (by decide) (hF _ (List.mem_of_getElem? (i := 25) rfl)) dX3_use_34 ?_
    show zS _ _ _ _ _ _ _ 37 _ _ _ _ _
    refine z_aload1 dX3_use_37 ?_
    refine zd_getI hW fl_RX3_55 hr (by decide) dX3_use_38 ?_
    refine zc_ld (j := 22) hW rfl (by decide) hpi.2 (by omega) dX3_use_41 ?_
    refine z_iconst (v := 2) dX3_use_42 (by decide) ?_
    refine z_icmp_ne (tgt := 56) dX3_use_43 (by decide) (fun c43 => ?_) (fun c43 => ?_)
    · show zS _ _ _ _ _ _ _ 56 _ _ _ _ _
      refine z_ret dX3_use_56 rfl ?_
      first
        | (rw [show buse C f r = _ from (if_pos (kplace_t c17)).trans (if_pos c43)]; exact ⟨rfl, rfl, rfl, by omega, by omega, hw, zLe.rf, hW⟩)
        | (rw [show buse C f r = _ from (if_pos (kplace_t c17)).trans (if_neg c43)]; exact ⟨rfl, rfl, rfl, by omega, by omega, hw, zLe.rf, hW⟩)
        | (rw [show buse C f r = _ from if_neg (kplace_f c17)]; exact ⟨rfl, rfl, rfl, by omega, by omega, hw, zLe.rf, hW⟩)
    · show zS _ _ _ _ _ _ _ 46 _ _ _ _ _
      refine z_aload0 dX3_use_46 ?_
      refine z_dup dX3_use_47 ?_
      refine zc_getI (j := 21) hW fl_RX3_25 rfl dX3_use_48 ?_
      refine z_iconst (v := 1) dX3_use_51 (by decide) ?_
      refine z_iadd dX3_use_52 ?_
      refine zc_putI (j := 21) hW fl_RX3_25 rfl dX3_use_53 ?_
      refine z_ret dX3_use_56 rfl ?_
      first
        | (rw [show buse C f r = _ from (if_pos (kplace_t c17)).trans (if_pos c43)]; exact ⟨rfl, rfl, rfl, by omega, by omega, hw, zLe.rf, hW⟩)
        | (rw [show buse C f r = _ from (if_pos (kplace_t c17)).trans (if_neg c43)]; exact ⟨rfl, rfl, rfl, by omega, by omega, hw, zLe.rf, hW⟩)
        | (rw [show buse C f r = _ from if_neg (kplace_f c17)]; exact ⟨rfl, rfl, rfl, by omega, by omega, hw, zLe.rf, hW⟩)
theorem B_X2_init {l : Launch} {d : Nat} {D : zD} {b0 : Nat} {g : zG} {f C : zI} {R : zRf} {c : Nat} {X : Nat → Prop} (hW : CW b0 g c) (hw : zOK b0 X (gv c g R)) (a : Nat) (k y : Int32) (e s r : Option Nat) (ho : ¬ (c ≤ a ∧ a < c + 27)) (ha : zIn b0 g a 2) (he : ∀ b, e = some b → zIn b0 g b 1) (hs : ∀ b, s = some b → zIn b0 g b 9) (hr : ∀ b, r = some b → zIn b0 g b 7) (hd : 1 ≤ d) : zM l d D b0 mX2_init [.ref a, .int k, va_rf e, va_rf s, .int y, va_rf r] (gv c g R) (cv c f C) (zCy b0 X c g none (zpR (zpR (zpR g a 1 e) a 2 s) a 4 r) R (zup (zup f a 0 k) a 3 y) C 0 0) := by
  have K := K_X2_init (l := l) (d := d) (D := D) (f := cv c f C) hw a k y e s r ha.gv he hs hr hd
  have e1 : (uR (uI (uR (uR (uI (gv c g R, cv c f C) a 0 k) a 1 e) a 2 s) a 3 y) a 4 r) = (gv c (zpR (zpR (zpR g a 1 e) a 2 s) a 4 r) R, cv c (zup (zup f a 0 k) a 3 y) C) := by
    unfold uR uI
    simp only [gv_stD ho, cv_stD ho]
  rw [e1] at K
  exact zM.mono K (fun r' g' f' mc ms h => by
    obtain ⟨h1, h2, h3, h4, h5, h6, h7⟩ := h
    refine ⟨h1, h2, h3, h4, h5, ?_, zLe.rf, hW⟩
    rw [h2] at h6
    exact h6)
theorem B_X9_init {l : Launch} {d : Nat} {D : zD} {b0 : Nat} {g : zG} {f C : zI} {R : zRf} {c : Nat} {X : Nat → Prop} (hW : CW b0 g c) (hw : zOK b0 X (gv c g R)) (a : Nat) (x y : Int32) (r s : Option Nat) (ho : ¬ (c ≤ a ∧ a < c + 27)) (ha : zIn b0 g a 9) (hr : ∀ b, r = some b → zIn b0 g b 7) (hs : ∀ b, s = some b → zIn b0 g b 9) (hd : 1 ≤ d) : zM l d D b0 mX9_init [.ref a, .int x, .int y, va_rf r, va_rf s] (gv c g R) (cv c f C) (zCy b0 X c g none (zpR (zpR g a 2 r) a 3 s) R (zup (zup f a 0 x) a 1 y) C 0 0) := by
  have K := K_X9_init (l := l) (d := d) (D := D) (f := cv c f C) hw a x y r s ha.gv hr hs hd
  have e1 : (uR (uR (uI (uI (gv c g R, cv c f C) a 0 x) a 1 y) a 2 r) a 3 s) = (gv c (zpR (zpR g a 2 r) a 3 s) R, cv c (zup (zup f a 0 x) a 1 y) C) := by
    unfold uR uI
    simp only [gv_stD ho, cv_stD ho]
  rw [e1] at K
  exact zM.mono K (fun r' g' f' mc ms h => by
    obtain ⟨h1, h2, h3, h4, h5, h6, h7⟩ := h
    refine ⟨h1, h2, h3, h4, h5, ?_, zLe.rf, hW⟩
    rw [h2] at h6
    exact h6)
theorem B_X7_init {l : Launch} {d : Nat} {D : zD} {b0 : Nat} {g : zG} {f C : zI} {R : zRf} {c : Nat} {X : Nat → Prop} (hW : CW b0 g c) (hw : zOK b0 X (gv c g R)) (a : Nat) (x : Int32) (cp : Nat) (ho : ¬ (c ≤ a ∧ a < c + 27)) (ha : zIn b0 g a 7) (hX : X a) (hc : zIn b0 g cp 15) (hd : 1 ≤ d) : zM l d D b0 mX7_init [.ref a, .int x, .ref cp] (gv c g R) (cv c f C) (zCy b0 X c g none (zpR g a 1 (some cp)) R (zup f a 0 x) C 0 0) := by
  have K := K_X7_init (l := l) (d := d) (D := D) (f := cv c f C) hw a x cp ha.gv hX hc hd
  have e1 : (uR (uI (gv c g R, cv c f C) a 0 x) a 1 (some cp)) = (gv c (zpR g a 1 (some cp)) R, cv c (zup f a 0 x) C) := by
    unfold uR uI
    simp only [gv_stD ho, cv_stD ho]
  rw [e1] at K
  exact zM.mono K (fun r' g' f' mc ms h => by
    obtain ⟨h1, h2, h3, h4, h5, h6, h7⟩ := h
    refine ⟨h1, h2, h3, h4, h5, ?_, zLe.rf, hW⟩
    rw [h2] at h6
    exact h6)
