/-! The class's small methods, in literal form. -/
theorem z01a {p : Prop} [Decidable p] : zB p = 0 ∨ zB p = 1 := by
  unfold zB
  split
  · exact Or.inr rfl
  · exact Or.inl rfl
set_option maxRecDepth 20000 in
theorem K_X11_isOperation {l : Launch} {d : Nat} {D : zD} {b0 : Nat} {g : zG} {f : zI}  (x : Int32) : zM l d D b0 mX11_isOperation [.int x] g f (zEx (some (.int (zB (¬ x < 0 ∧ x < 6)))) g f) := by
  refine zM.start zmd_X11_isOperation (Nat.le_of_ble_eq_true rfl) ⟨rfl, trivial⟩ [some (.int x)] rfl ?_
  refine z_iload0 dX11_isOperation_0 ?_
  refine z_if_lt (tgt := 14) dX11_isOperation_1 (by decide) (fun c1 => ?_) (fun c1 => ?_)
  · show zS _ _ _ _ _ _ _ 14 _ _ _ _ _
    refine z_iconst (v := 0) dX11_isOperation_14 (by decide) ?_
    refine z_iret dX11_isOperation_15 rfl ?_
    refine ⟨congrArg (fun z => some (Value.int z)) ?_, rfl, rfl, rfl, rfl⟩
    first | exact (zB1 ⟨by assumption, by assumption⟩).symm | exact (zB0 (fun q => absurd q.2 (by assumption))).symm | exact (zB0 (fun q => absurd (by assumption) q.1)).symm
  · show zS _ _ _ _ _ _ _ 4 _ _ _ _ _
    refine z_iload0 dX11_isOperation_4 ?_
    refine z_bipush (v := 6) dX11_isOperation_5 (by decide) ?_
    refine z_icmp_ge (tgt := 14) dX11_isOperation_7 (by decide) (fun c7 => ?_) (fun c7 => ?_)
    · show zS _ _ _ _ _ _ _ 14 _ _ _ _ _
      refine z_iconst (v := 0) dX11_isOperation_14 (by decide) ?_
      refine z_iret dX11_isOperation_15 rfl ?_
      refine ⟨congrArg (fun z => some (Value.int z)) ?_, rfl, rfl, rfl, rfl⟩
      first | exact (zB1 ⟨by assumption, by assumption⟩).symm | exact (zB0 (fun q => absurd q.2 (by assumption))).symm | exact (zB0 (fun q => absurd (by assumption) q.1)).symm
    · show zS _ _ _ _ _ _ _ 10 _ _ _ _ _
      refine z_iconst (v := 1) dX11_isOperation_10 (by decide) ?_
      refine z_goto (tgt := 15) dX11_isOperation_11 (by decide) ?_
      show zS _ _ _ _ _ _ _ 15 _ _ _ _ _
      refine z_iret dX11_isOperation_15 rfl ?_
      refine ⟨congrArg (fun z => some (Value.int z)) ?_, rfl, rfl, rfl, rfl⟩
      first | exact (zB1 ⟨by assumption, by assumption⟩).symm | exact (zB0 (fun q => absurd q.2 (by assumption))).symm | exact (zB0 (fun q => absurd (by assumption) q.1)).symm
set_option maxRecDepth 20000 in
theorem K_X11_isProcedure {l : Launch} {d : Nat} {D : zD} {b0 : Nat} {g : zG} {f : zI}  (x : Int32) : zM l d D b0 mX11_isProcedure [.int x] g f (zEx (some (.int (zB (¬ x < 0 ∧ x < 4)))) g f) := by
  refine zM.start zmd_X11_isProcedure (Nat.le_of_ble_eq_true rfl) ⟨rfl, trivial⟩ [some (.int x)] rfl ?_
  refine z_iload0 dX11_isProcedure_0 ?_
  refine z_if_lt (tgt := 13) dX11_isProcedure_1 (by decide) (fun c1 => ?_) (fun c1 => ?_)
  · show zS _ _ _ _ _ _ _ 13 _ _ _ _ _
    refine z_iconst (v := 0) dX11_isProcedure_13 (by decide) ?_
    refine z_iret dX11_isProcedure_14 rfl ?_
    refine ⟨congrArg (fun z => some (Value.int z)) ?_, rfl, rfl, rfl, rfl⟩
    first | exact (zB1 ⟨by assumption, by assumption⟩).symm | exact (zB0 (fun q => absurd q.2 (by assumption))).symm | exact (zB0 (fun q => absurd (by assumption) q.1)).symm
  · show zS _ _ _ _ _ _ _ 4 _ _ _ _ _
    refine z_iload0 dX11_isProcedure_4 ?_
    refine z_iconst (v := 4) dX11_isProcedure_5 (by decide) ?_
    refine z_icmp_ge (tgt := 13) dX11_isProcedure_6 (by decide) (fun c6 => ?_) (fun c6 => ?_)
    · show zS _ _ _ _ _ _ _ 13 _ _ _ _ _
      refine z_iconst (v := 0) dX11_isProcedure_13 (by decide) ?_
      refine z_iret dX11_isProcedure_14 rfl ?_
      refine ⟨congrArg (fun z => some (Value.int z)) ?_, rfl, rfl, rfl, rfl⟩
      first | exact (zB1 ⟨by assumption, by assumption⟩).symm | exact (zB0 (fun q => absurd q.2 (by assumption))).symm | exact (zB0 (fun q => absurd (by assumption) q.1)).symm
    · show zS _ _ _ _ _ _ _ 9 _ _ _ _ _
      refine z_iconst (v := 1) dX11_isProcedure_9 (by decide) ?_
      refine z_goto (tgt := 14) dX11_isProcedure_10 (by decide) ?_
      show zS _ _ _ _ _ _ _ 14 _ _ _ _ _
      refine z_iret dX11_isProcedure_14 rfl ?_
      refine ⟨congrArg (fun z => some (Value.int z)) ?_, rfl, rfl, rfl, rfl⟩
      first | exact (zB1 ⟨by assumption, by assumption⟩).symm | exact (zB0 (fun q => absurd q.2 (by assumption))).symm | exact (zB0 (fun q => absurd (by assumption) q.1)).symm
set_option maxRecDepth 20000 in
theorem K_X11_isImage {l : Launch} {d : Nat} {D : zD} {b0 : Nat} {g : zG} {f : zI}  (x : Int32) : zM l d D b0 mX11_isImage [.int x] g f (zEx (some (.int (zB (¬ x < 0 ∧ x < 2)))) g f) := by
  refine zM.start zmd_X11_isImage (Nat.le_of_ble_eq_true rfl) ⟨rfl, trivial⟩ [some (.int x)] rfl ?_
  refine z_iload0 dX11_isImage_0 ?_
  refine z_if_lt (tgt := 13) dX11_isImage_1 (by decide) (fun c1 => ?_) (fun c1 => ?_)
  · show zS _ _ _ _ _ _ _ 13 _ _ _ _ _
    refine z_iconst (v := 0) dX11_isImage_13 (by decide) ?_
    refine z_iret dX11_isImage_14 rfl ?_
    refine ⟨congrArg (fun z => some (Value.int z)) ?_, rfl, rfl, rfl, rfl⟩
    first | exact (zB1 ⟨by assumption, by assumption⟩).symm | exact (zB0 (fun q => absurd q.2 (by assumption))).symm | exact (zB0 (fun q => absurd (by assumption) q.1)).symm
  · show zS _ _ _ _ _ _ _ 4 _ _ _ _ _
    refine z_iload0 dX11_isImage_4 ?_
    refine z_iconst (v := 2) dX11_isImage_5 (by decide) ?_
    refine z_icmp_ge (tgt := 13) dX11_isImage_6 (by decide) (fun c6 => ?_) (fun c6 => ?_)
    · show zS _ _ _ _ _ _ _ 13 _ _ _ _ _
      refine z_iconst (v := 0) dX11_isImage_13 (by decide) ?_
      refine z_iret dX11_isImage_14 rfl ?_
      refine ⟨congrArg (fun z => some (Value.int z)) ?_, rfl, rfl, rfl, rfl⟩
      first | exact (zB1 ⟨by assumption, by assumption⟩).symm | exact (zB0 (fun q => absurd q.2 (by assumption))).symm | exact (zB0 (fun q => absurd (by assumption) q.1)).symm
    · show zS _ _ _ _ _ _ _ 9 _ _ _ _ _
      refine z_iconst (v := 1) dX11_isImage_9 (by decide) ?_
      refine z_goto (tgt := 14) dX11_isImage_10 (by decide) ?_
      show zS _ _ _ _ _ _ _ 14 _ _ _ _ _
      refine z_iret dX11_isImage_14 rfl ?_
      refine ⟨congrArg (fun z => some (Value.int z)) ?_, rfl, rfl, rfl, rfl⟩
      first | exact (zB1 ⟨by assumption, by assumption⟩).symm | exact (zB0 (fun q => absurd q.2 (by assumption))).symm | exact (zB0 (fun q => absurd (by assumption) q.1)).symm
set_option maxRecDepth 20000 in
theorem K_X3_isPlace {l : Launch} {d : Nat} {D : zD} {b0 : Nat} {g : zG} {f : zI}  (x : Int32) : zM l d D b0 mX3_isPlace [.int x] g f (zEx (some (.int (zB (¬ x < 0 ∧ x < 1000)))) g f) := by
  refine zM.start zmd_X3_isPlace (Nat.le_of_ble_eq_true rfl) ⟨rfl, trivial⟩ [some (.int x)] rfl ?_
  refine z_iload0 dX3_isPlace_0 ?_
  refine z_if_lt (tgt := 15) dX3_isPlace_1 (by decide) (fun c1 => ?_) (fun c1 => ?_)
  · show zS _ _ _ _ _ _ _ 15 _ _ _ _ _
    refine z_iconst (v := 0) dX3_isPlace_15 (by decide) ?_
    refine z_iret dX3_isPlace_16 rfl ?_
    refine ⟨congrArg (fun z => some (Value.int z)) ?_, rfl, rfl, rfl, rfl⟩
    first | exact (zB1 ⟨by assumption, by assumption⟩).symm | exact (zB0 (fun q => absurd q.2 (by assumption))).symm | exact (zB0 (fun q => absurd (by assumption) q.1)).symm
  · show zS _ _ _ _ _ _ _ 4 _ _ _ _ _
    refine z_iload0 dX3_isPlace_4 ?_
    refine z_sipush (v := 1000) dX3_isPlace_5 (by decide) ?_
    refine z_icmp_ge (tgt := 15) dX3_isPlace_8 (by decide) (fun c8 => ?_) (fun c8 => ?_)
    · show zS _ _ _ _ _ _ _ 15 _ _ _ _ _
      refine z_iconst (v := 0) dX3_isPlace_15 (by decide) ?_
      refine z_iret dX3_isPlace_16 rfl ?_
      refine ⟨congrArg (fun z => some (Value.int z)) ?_, rfl, rfl, rfl, rfl⟩
      first | exact (zB1 ⟨by assumption, by assumption⟩).symm | exact (zB0 (fun q => absurd q.2 (by assumption))).symm | exact (zB0 (fun q => absurd (by assumption) q.1)).symm
    · show zS _ _ _ _ _ _ _ 11 _ _ _ _ _
      refine z_iconst (v := 1) dX3_isPlace_11 (by decide) ?_
      refine z_goto (tgt := 16) dX3_isPlace_12 (by decide) ?_
      show zS _ _ _ _ _ _ _ 16 _ _ _ _ _
      refine z_iret dX3_isPlace_16 rfl ?_
      refine ⟨congrArg (fun z => some (Value.int z)) ?_, rfl, rfl, rfl, rfl⟩
      first | exact (zB1 ⟨by assumption, by assumption⟩).symm | exact (zB0 (fun q => absurd q.2 (by assumption))).symm | exact (zB0 (fun q => absurd (by assumption) q.1)).symm
set_option maxRecDepth 20000 in
theorem K_X11_isDigit {l : Launch} {d : Nat} {D : zD} {b0 : Nat} {g : zG} {f : zI}  (x : Int32) : zM l d D b0 mX11_isDigit [.int x] g f (zEx (some (.int (zB (¬ x < 48 ∧ ¬ 57 < x)))) g f) := by
  refine zM.start zmd_X11_isDigit (Nat.le_of_ble_eq_true rfl) ⟨rfl, trivial⟩ [some (.int x)] rfl ?_
  refine z_iload0 dX11_isDigit_0 ?_
  refine z_bipush (v := 48) dX11_isDigit_1 (by decide) ?_
  refine z_icmp_lt (tgt := 16) dX11_isDigit_3 (by decide) (fun c3 => ?_) (fun c3 => ?_)
  · show zS _ _ _ _ _ _ _ 16 _ _ _ _ _
    refine z_iconst (v := 0) dX11_isDigit_16 (by decide) ?_
    refine z_iret dX11_isDigit_17 rfl ?_
    refine ⟨congrArg (fun z => some (Value.int z)) ?_, rfl, rfl, rfl, rfl⟩
    first | exact (zB1 ⟨by assumption, by assumption⟩).symm | exact (zB0 (fun q => absurd (by assumption) q.1)).symm | exact (zB0 (fun q => absurd (by assumption) q.2)).symm
  · show zS _ _ _ _ _ _ _ 6 _ _ _ _ _
    refine z_iload0 dX11_isDigit_6 ?_
    refine z_bipush (v := 57) dX11_isDigit_7 (by decide) ?_
    refine z_icmp_gt (tgt := 16) dX11_isDigit_9 (by decide) (fun c9 => ?_) (fun c9 => ?_)
    · show zS _ _ _ _ _ _ _ 16 _ _ _ _ _
      refine z_iconst (v := 0) dX11_isDigit_16 (by decide) ?_
      refine z_iret dX11_isDigit_17 rfl ?_
      refine ⟨congrArg (fun z => some (Value.int z)) ?_, rfl, rfl, rfl, rfl⟩
      first | exact (zB1 ⟨by assumption, by assumption⟩).symm | exact (zB0 (fun q => absurd (by assumption) q.1)).symm | exact (zB0 (fun q => absurd (by assumption) q.2)).symm
    · show zS _ _ _ _ _ _ _ 12 _ _ _ _ _
      refine z_iconst (v := 1) dX11_isDigit_12 (by decide) ?_
      refine z_goto (tgt := 17) dX11_isDigit_13 (by decide) ?_
      show zS _ _ _ _ _ _ _ 17 _ _ _ _ _
      refine z_iret dX11_isDigit_17 rfl ?_
      refine ⟨congrArg (fun z => some (Value.int z)) ?_, rfl, rfl, rfl, rfl⟩
      first | exact (zB1 ⟨by assumption, by assumption⟩).symm | exact (zB0 (fun q => absurd (by assumption) q.1)).symm | exact (zB0 (fun q => absurd (by assumption) q.2)).symm
set_option maxRecDepth 20000 in
theorem K_X11_isLetter {l : Launch} {d : Nat} {D : zD} {b0 : Nat} {g : zG} {f : zI}  (x : Int32) : zM l d D b0 mX11_isLetter [.int x] g f (zEx (some (.int (zB (¬ x < 97 ∧ ¬ 122 < x)))) g f) := by
  refine zM.start zmd_X11_isLetter (Nat.le_of_ble_eq_true rfl) ⟨rfl, trivial⟩ [some (.int x)] rfl ?_
  refine z_iload0 dX11_isLetter_0 ?_
  refine z_bipush (v := 97) dX11_isLetter_1 (by decide) ?_
  refine z_icmp_lt (tgt := 16) dX11_isLetter_3 (by decide) (fun c3 => ?_) (fun c3 => ?_)
  · show zS _ _ _ _ _ _ _ 16 _ _ _ _ _
    refine z_iconst (v := 0) dX11_isLetter_16 (by decide) ?_
    refine z_iret dX11_isLetter_17 rfl ?_
    refine ⟨congrArg (fun z => some (Value.int z)) ?_, rfl, rfl, rfl, rfl⟩
    first | exact (zB1 ⟨by assumption, by assumption⟩).symm | exact (zB0 (fun q => absurd (by assumption) q.1)).symm | exact (zB0 (fun q => absurd (by assumption) q.2)).symm
  · show zS _ _ _ _ _ _ _ 6 _ _ _ _ _
    refine z_iload0 dX11_isLetter_6 ?_
    refine z_bipush (v := 122) dX11_isLetter_7 (by decide) ?_
    refine z_icmp_gt (tgt := 16) dX11_isLetter_9 (by decide) (fun c9 => ?_) (fun c9 => ?_)
    · show zS _ _ _ _ _ _ _ 16 _ _ _ _ _
      refine z_iconst (v := 0) dX11_isLetter_16 (by decide) ?_
      refine z_iret dX11_isLetter_17 rfl ?_
      refine ⟨congrArg (fun z => some (Value.int z)) ?_, rfl, rfl, rfl, rfl⟩
      first | exact (zB1 ⟨by assumption, by assumption⟩).symm | exact (zB0 (fun q => absurd (by assumption) q.1)).symm | exact (zB0 (fun q => absurd (by assumption) q.2)).symm
    · show zS _ _ _ _ _ _ _ 12 _ _ _ _ _
      refine z_iconst (v := 1) dX11_isLetter_12 (by decide) ?_
      refine z_goto (tgt := 17) dX11_isLetter_13 (by decide) ?_
      show zS _ _ _ _ _ _ _ 17 _ _ _ _ _
      refine z_iret dX11_isLetter_17 rfl ?_
      refine ⟨congrArg (fun z => some (Value.int z)) ?_, rfl, rfl, rfl, rfl⟩
      first | exact (zB1 ⟨by assumption, by assumption⟩).symm | exact (zB0 (fun q => absurd (by assumption) q.1)).symm | exact (zB0 (fun q => absurd (by assumption) q.2)).symm
def kpush (S : zSt) (a x : Nat) : zSt :=
  if S.2 a 1 < 100 then
    (let S1 := uR S (pA S.1 a 0) (tn (S.2 a 1)) (some x)
     let S2 := uI S1 a 1 (S1.2 a 1 + 1)
     uI S2 a 2 (if S2.2 a 2 < S2.2 a 1 then S2.2 a 1 else S2.2 a 2))
  else S
def kpop (S : zSt) (a : Nat) : zSt := if 0 < S.2 a 1 then uI S a 1 (S.2 a 1 - 1) else S
def kbelow (S : zSt) (a : Nat) (k : Int32) : Option Nat := if ¬ k < 0 ∧ k < S.2 a 1 then S.1.2.2.2 (pA S.1 a 0) (tn (S.2 a 1 - 1 - k)) else none
set_option maxRecDepth 20000 in
theorem K_X10_clear {l : Launch} {d : Nat} {D : zD} {b0 : Nat} {g : zG} {f : zI} (hw : zOK b0 zNo g) (a : Nat) (ha : zIn b0 g a 10) : zM l d D b0 mX10_clear [.ref a] g f (zCx b0 zNo g none (uI (uI (g, f) a 1 0) a 2 0) 0 0) := by
  refine zM.start zmd_X10_clear (Nat.le_of_ble_eq_true rfl) ⟨rfl, trivial⟩ [some (.ref a)] rfl ?_
  refine z_aload0 dX10_clear_0 ?_
  refine z_iconst (v := 0) dX10_clear_1 (by decide) ?_
  refine z_putI fl_RX10_17 ha dX10_clear_2 ?_
  refine z_aload0 dX10_clear_5 ?_
  refine z_iconst (v := 0) dX10_clear_6 (by decide) ?_
  refine z_putI fl_RX10_21 ha dX10_clear_7 ?_
  refine z_ret dX10_clear_10 rfl ?_
  exact ⟨rfl, rfl, rfl, by omega, by omega, hw, zLe.rf⟩
set_option maxRecDepth 20000 in
theorem K_X10_hasRoomFor {l : Launch} {d : Nat} {D : zD} {b0 : Nat} {g : zG} {f : zI}  (a : Nat) (ha : zIn b0 g a 10) (x : Int32) : zM l d D b0 mX10_hasRoomFor [.ref a, .int x] g f (zEx (some (.int (zB (¬ 100 < f a 1 + x)))) g f) := by
  refine zM.start zmd_X10_hasRoomFor (Nat.le_of_ble_eq_true rfl) ⟨rfl, rfl, trivial⟩ [some (.ref a), some (.int x)] rfl ?_
  refine z_aload0 dX10_hasRoomFor_0 ?_
  refine z_getI fl_RX10_17 ha dX10_hasRoomFor_1 ?_
  refine z_iload1 dX10_hasRoomFor_4 ?_
  refine z_iadd dX10_hasRoomFor_5 ?_
  refine z_bipush (v := 100) dX10_hasRoomFor_6 (by decide) ?_
  refine z_icmp_gt (tgt := 15) dX10_hasRoomFor_8 (by decide) (fun c8 => ?_) (fun c8 => ?_)
  · show zS _ _ _ _ _ _ _ 15 _ _ _ _ _
    refine z_iconst (v := 0) dX10_hasRoomFor_15 (by decide) ?_
    refine z_iret dX10_hasRoomFor_16 rfl ?_
    refine ⟨congrArg (fun z => some (Value.int z)) ?_, rfl, rfl, rfl, rfl⟩
    first | exact (zB1 (by assumption)).symm | exact (zB0 (fun q => absurd (by assumption) q)).symm
  · show zS _ _ _ _ _ _ _ 11 _ _ _ _ _
    refine z_iconst (v := 1) dX10_hasRoomFor_11 (by decide) ?_
    refine z_goto (tgt := 16) dX10_hasRoomFor_12 (by decide) ?_
    show zS _ _ _ _ _ _ _ 16 _ _ _ _ _
    refine z_iret dX10_hasRoomFor_16 rfl ?_
    refine ⟨congrArg (fun z => some (Value.int z)) ?_, rfl, rfl, rfl, rfl⟩
    first | exact (zB1 (by assumption)).symm | exact (zB0 (fun q => absurd (by assumption) q)).symm
set_option maxRecDepth 20000 in
theorem K_X10_push {l : Launch} {d : Nat} {D : zD} {b0 : Nat} {g : zG} {f : zI} (hw : zOK b0 zNo g) (a x : Nat) (ha : zIn b0 g a 10) (hx : zIn b0 g x 2) (hdp : iv 101 (f a 1)) (hd : 1 ≤ d) : zM l d D b0 mX10_push [.ref a, .ref x] g f (zCx b0 zNo g none (kpush (g, f) a x) 0 0) := by
  have hdp1 := hdp.1
  refine zM.start zmd_X10_push (Nat.le_of_ble_eq_true rfl) ⟨rfl, rfl, trivial⟩ [some (.ref a), some (.ref x)] rfl ?_
  refine z_aload0 dX10_push_0 ?_
  refine z_getI fl_RX10_17 ha dX10_push_1 ?_
  refine z_aload0 dX10_push_4 ?_
  refine zw_getF (n := 100) hw fl_RX10_11 ha (fun h => h) (by decide) (by decide) dX10_push_5 (fun e1 i1 l1 => ?_)
  refine z_alenN i1 (by decide) l1 dX10_push_8 ?_
  refine z_icmp_ge (tgt := 47) dX10_push_9 (by decide) (fun c9 => ?_) (fun c9 => ?_)
  · show zS _ _ _ _ _ _ _ 47 _ _ _ _ _
    refine z_ret dX10_push_47 rfl ?_
    first | rw [show kpush (g, f) a x = _ from if_pos c9] | rw [show kpush (g, f) a x = (g, f) from if_neg c9]
    exact ⟨rfl, rfl, rfl, by omega, by omega, hw, zLe.rf⟩
  · show zS _ _ _ _ _ _ _ 12 _ _ _ _ _
    have hlt : tn (f a 1) < 100 := by
      have c := c9
      rw [hdp.2] at c
      exact (nI_ltI (b := 100) (by omega) (by decide)).mp c
    refine z_aload0 dX10_push_12 ?_
    refine zw_getF (n := 100) hw fl_RX10_11 ha (fun h => h) (by decide) (by decide) dX10_push_13 (fun e2 i2 l2 => ?_)
    refine z_aload0 dX10_push_16 ?_
    refine z_getI fl_RX10_17 ha dX10_push_17 ?_
    refine z_aload1 dX10_push_20 ?_
    refine zw_aasts (t' := 2) hw i2 (by decide) l2 hdp.2 (by omega) (by decide) (fun _ => rfl) hx dX10_push_21 (fun w3 => ?_)
    refine z_aload0 dX10_push_22 ?_
    refine z_dup dX10_push_23 ?_
    refine z_getI fl_RX10_17 ha dX10_push_24 ?_
    refine z_iconst (v := 1) dX10_push_27 (by decide) ?_
    refine z_iadd dX10_push_28 ?_
    show zS _ _ _ _ _ _ _ 29 _ _ _ _ _
    refine z_putI fl_RX10_17 ha dX10_push_29 ?_
    refine z_aload0 dX10_push_32 ?_
    refine z_aload0 dX10_push_33 ?_
    refine z_getI fl_RX10_21 ha dX10_push_34 ?_
    refine z_aload0 dX10_push_37 ?_
    refine z_getI fl_RX10_17 ha dX10_push_38 ?_
    refine z_max zl_RX10_24 zst_J9_max_7cf53 zini_RJ9 zcd_J9_max_7cf53 rfl (by omega) dX10_push_41 ?_
    refine z_putI fl_RX10_21 ha dX10_push_44 ?_
    refine z_ret dX10_push_47 rfl ?_
    first | rw [show kpush (g, f) a x = _ from if_pos c9] | rw [show kpush (g, f) a x = (g, f) from if_neg c9]
    exact ⟨rfl, rfl, rfl, by omega, by omega, w3, zLe.rf⟩
set_option maxRecDepth 20000 in
theorem K_X10_pop {l : Launch} {d : Nat} {D : zD} {b0 : Nat} {g : zG} {f : zI} (hw : zOK b0 zNo g) (a : Nat) (ha : zIn b0 g a 10) : zM l d D b0 mX10_pop [.ref a] g f (zCx b0 zNo g none (kpop (g, f) a) 0 0) := by
  refine zM.start zmd_X10_pop (Nat.le_of_ble_eq_true rfl) ⟨rfl, trivial⟩ [some (.ref a)] rfl ?_
  refine z_aload0 dX10_pop_0 ?_
  refine z_getI fl_RX10_17 ha dX10_pop_1 ?_
  refine z_if_le (tgt := 17) dX10_pop_4 (by decide) (fun c4 => ?_) (fun c4 => ?_)
  · show zS _ _ _ _ _ _ _ 17 _ _ _ _ _
    refine z_ret dX10_pop_17 rfl ?_
    first | rw [show kpop (g, f) a = _ from if_pos (by assumption)] | rw [show kpop (g, f) a = (g, f) from if_neg (by assumption)]
    exact ⟨rfl, rfl, rfl, by omega, by omega, hw, zLe.rf⟩
  · show zS _ _ _ _ _ _ _ 7 _ _ _ _ _
    refine z_aload0 dX10_pop_7 ?_
    refine z_dup dX10_pop_8 ?_
    refine z_getI fl_RX10_17 ha dX10_pop_9 ?_
    refine z_iconst (v := 1) dX10_pop_12 (by decide) ?_
    refine z_isub dX10_pop_13 ?_
    refine z_putI fl_RX10_17 ha dX10_pop_14 ?_
    refine z_ret dX10_pop_17 rfl ?_
    first | rw [show kpop (g, f) a = _ from if_pos (by assumption)] | rw [show kpop (g, f) a = (g, f) from if_neg (by assumption)]
    exact ⟨rfl, rfl, rfl, by omega, by omega, hw, zLe.rf⟩
set_option maxRecDepth 20000 in
theorem K_X10_below {l : Launch} {d : Nat} {D : zD} {b0 : Nat} {g : zG} {f : zI} (hw : zOK b0 zNo g) (a : Nat) (k : Int32) (ha : zIn b0 g a 10) (hdp : iv 101 (f a 1)) : zM l d D b0 mX10_below [.ref a, .int k] g f (zEx (some (va_rf (kbelow (g, f) a k))) g f) := by
  have hdp1 := hdp.1
  refine zM.start zmd_X10_below (Nat.le_of_ble_eq_true rfl) ⟨rfl, rfl, trivial⟩ [some (.ref a), some (.int k)] rfl ?_
  refine z_iload1 dX10_below_0 ?_
  refine z_if_lt (tgt := 28) dX10_below_1 (by decide) (fun c1 => ?_) (fun c1 => ?_)
  · show zS _ _ _ _ _ _ _ 28 _ _ _ _ _
    refine z_null dX10_below_28 ?_
    refine z_aret dX10_below_29 rfl ?_ (Or.inl ⟨_, rfl⟩)
    first
      | (refine ⟨congrArg (fun z => some (va_rf z)) (show _ = kbelow (g, f) a k from ?_), rfl, rfl, rfl, rfl⟩; first | exact (if_pos ⟨hk0, by assumption⟩).symm | exact (if_neg (fun q => absurd (by assumption) q.1)).symm | exact (if_neg (fun q => absurd q.2 (by assumption))).symm)
      | (refine ⟨congrArg (fun z => some (va_rf z)) (show none = kbelow (g, f) a k from ?_), rfl, rfl, rfl, rfl⟩; first | exact (if_pos ⟨hk0, by assumption⟩).symm | exact (if_neg (fun q => absurd (by assumption) q.1)).symm | exact (if_neg (fun q => absurd q.2 (by assumption))).symm)
  · show zS _ _ _ _ _ _ _ 4 _ _ _ _ _
    refine z_iload1 dX10_below_4 ?_
    refine z_aload0 dX10_below_5 ?_
    refine z_getI fl_RX10_17 ha dX10_below_6 ?_
    refine z_icmp_ge (tgt := 28) dX10_below_9 (by decide) (fun c9 => ?_) (fun c9 => ?_)
    · show zS _ _ _ _ _ _ _ 28 _ _ _ _ _
      refine z_null dX10_below_28 ?_
      refine z_aret dX10_below_29 rfl ?_ (Or.inl ⟨_, rfl⟩)
      first
        | (refine ⟨congrArg (fun z => some (va_rf z)) (show _ = kbelow (g, f) a k from ?_), rfl, rfl, rfl, rfl⟩; first | exact (if_pos ⟨hk0, by assumption⟩).symm | exact (if_neg (fun q => absurd (by assumption) q.1)).symm | exact (if_neg (fun q => absurd q.2 (by assumption))).symm)
        | (refine ⟨congrArg (fun z => some (va_rf z)) (show none = kbelow (g, f) a k from ?_), rfl, rfl, rfl, rfl⟩; first | exact (if_pos ⟨hk0, by assumption⟩).symm | exact (if_neg (fun q => absurd (by assumption) q.1)).symm | exact (if_neg (fun q => absurd q.2 (by assumption))).symm)
    · show zS _ _ _ _ _ _ _ 12 _ _ _ _ _
      have hk0 : ¬ k < 0 := c1
      obtain ⟨q, hq1, hq2⟩ := nI_of hk0
      have hqd : q < tn (f a 1) := by
        have c := c9
        rw [hq2, hdp.2] at c
        exact (nI_ltI hq1 (by omega)).mp c
      have hix : f a 1 - 1 - k = nI (tn (f a 1) - 1 - q) := by
        rw [hq2]
        exact ixS (ixS hdp.2 (ixC 1) (by omega)) rfl (by omega)
      have hte : tn (f a 1 - 1 - k) = tn (f a 1) - 1 - q := by rw [hix]; exact tn_nI (by omega)
      refine z_aload0 dX10_below_12 ?_
      refine zw_getF (n := 100) hw fl_RX10_11 ha (fun h => h) (by decide) (by decide) dX10_below_13 (fun e1 i1 l1 => ?_)
      refine z_aload0 dX10_below_16 ?_
      refine z_getI fl_RX10_17 ha dX10_below_17 ?_
      refine z_iconst (v := 1) dX10_below_20 (by decide) ?_
      refine z_isub dX10_below_21 ?_
      refine z_iload1 dX10_below_22 ?_
      refine z_isub dX10_below_23 ?_
      refine zw_aald (t' := 2) hw i1 (by decide) l1 (hix.trans (by rw [hte]) : f a 1 - 1 - k = nI (tn (f a 1 - 1 - k))) (by omega) (by decide) (fun _ => rfl) (by decide) dX10_below_24 (fun i2 => ?_)
      refine z_goto (tgt := 29) dX10_below_25 (by decide) ?_
      show zS _ _ _ _ _ _ _ 29 _ _ _ _ _
      refine z_aret dX10_below_29 rfl ?_ (Or.inl ⟨_, rfl⟩)
      first
        | (refine ⟨congrArg (fun z => some (va_rf z)) (show _ = kbelow (g, f) a k from ?_), rfl, rfl, rfl, rfl⟩; first | exact (if_pos ⟨hk0, by assumption⟩).symm | exact (if_neg (fun q => absurd (by assumption) q.1)).symm | exact (if_neg (fun q => absurd q.2 (by assumption))).symm)
        | (refine ⟨congrArg (fun z => some (va_rf z)) (show none = kbelow (g, f) a k from ?_), rfl, rfl, rfl, rfl⟩; first | exact (if_pos ⟨hk0, by assumption⟩).symm | exact (if_neg (fun q => absurd (by assumption) q.1)).symm | exact (if_neg (fun q => absurd q.2 (by assumption))).symm)
set_option maxRecDepth 20000 in
theorem K_X9_init {l : Launch} {d : Nat} {D : zD} {b0 : Nat} {g : zG} {f : zI} {X : Nat → Prop} (hw : zOK b0 X g) (a : Nat) (x y : Int32) (r s : Option Nat) (ha : zIn b0 g a 9) (hr : ∀ b, r = some b → zIn b0 g b 7) (hs : ∀ b, s = some b → zIn b0 g b 9) (hd : 1 ≤ d) : zM l d D b0 mX9_init [.ref a, .int x, .int y, va_rf r, va_rf s] g f (zCx b0 X g none (uR (uR (uI (uI (g, f) a 0 x) a 1 y) a 2 r) a 3 s) 0 0) := by
  refine zM.start zmd_X9_init (Nat.le_of_ble_eq_true rfl) ⟨rfl, rfl, rfl, zcat_o _, zcat_o _, trivial⟩ [some (.ref a), some (.int x), some (.int y), some (va_rf r), some (va_rf s)] rfl ?_
  refine z_aload0 dX9_init_0 ?_
  refine z_objInit zl_RX9_1 zin_objectInit zcd_objectInit rfl (by omega) dX9_init_1 ?_
  refine z_aload0 dX9_init_4 ?_
  refine z_iload1 dX9_init_5 ?_
  refine z_putFI fl_RX9_7 rfl rfl ha dX9_init_6 ?_
  refine z_aload0 dX9_init_9 ?_
  refine z_iload2 dX9_init_10 ?_
  refine z_putFI fl_RX9_13 rfl rfl ha dX9_init_11 ?_
  refine z_aload0 dX9_init_14 ?_
  refine z_aload3 dX9_init_15 ?_
  refine zw_putFX hw fl_RX9_16 (by decide) (Or.inl ⟨_, rfl⟩) rfl rfl ha hr (Or.inr (by decide)) dX9_init_16 (fun w1 => ?_)
  show zS _ _ _ _ _ _ _ 19 _ _ _ _ _
  refine z_aload0 dX9_init_19 ?_
  refine z_aload4 dX9_init_20 ?_
  refine zw_putFX w1 fl_RX9_20 (by decide) (Or.inl ⟨_, rfl⟩) rfl rfl ha hs (Or.inr (by decide)) dX9_init_22 (fun w2 => ?_)
  refine z_ret dX9_init_25 rfl ?_
  exact ⟨rfl, rfl, rfl, by omega, by omega, w2, zLe.rf⟩
set_option maxRecDepth 20000 in
theorem K_X2_init {l : Launch} {d : Nat} {D : zD} {b0 : Nat} {g : zG} {f : zI} {X : Nat → Prop} (hw : zOK b0 X g) (a : Nat) (k y : Int32) (e s r : Option Nat) (ha : zIn b0 g a 2) (he : ∀ b, e = some b → zIn b0 g b 1) (hs : ∀ b, s = some b → zIn b0 g b 9) (hr : ∀ b, r = some b → zIn b0 g b 7) (hd : 1 ≤ d) : zM l d D b0 mX2_init [.ref a, .int k, va_rf e, va_rf s, .int y, va_rf r] g f (zCx b0 X g none (uR (uI (uR (uR (uI (g, f) a 0 k) a 1 e) a 2 s) a 3 y) a 4 r) 0 0) := by
  refine zM.start zmd_X2_init (Nat.le_of_ble_eq_true rfl) ⟨rfl, rfl, zcat_o _, zcat_o _, rfl, zcat_o _, trivial⟩ [some (.ref a), some (.int k), some (va_rf e), some (va_rf s), some (.int y), some (va_rf r)] rfl ?_
  refine z_aload0 dX2_init_0 ?_
  refine z_objInit zl_RX2_1 zin_objectInit zcd_objectInit rfl (by omega) dX2_init_1 ?_
  refine z_aload0 dX2_init_4 ?_
  refine z_iload1 dX2_init_5 ?_
  refine z_putFI fl_RX2_7 rfl rfl ha dX2_init_6 ?_
  refine z_aload0 dX2_init_9 ?_
  refine z_aload2 dX2_init_10 ?_
  refine zw_putFX hw fl_RX2_13 (by decide) (Or.inl ⟨_, rfl⟩) rfl rfl ha he (Or.inr (by decide)) dX2_init_11 (fun w1 => ?_)
  refine z_aload0 dX2_init_14 ?_
  refine z_aload3 dX2_init_15 ?_
  refine zw_putFX w1 fl_RX2_17 (by decide) (Or.inl ⟨_, rfl⟩) rfl rfl ha hs (Or.inr (by decide)) dX2_init_16 (fun w2 => ?_)
  show zS _ _ _ _ _ _ _ 19 _ _ _ _ _
  refine z_aload0 dX2_init_19 ?_
  refine z_iload4 dX2_init_20 ?_
  refine z_putFI fl_RX2_21 rfl rfl ha dX2_init_22 ?_
  refine z_aload0 dX2_init_25 ?_
  refine z_aload5 dX2_init_26 ?_
  refine zw_putFX w2 fl_RX2_24 (by decide) (Or.inl ⟨_, rfl⟩) rfl rfl ha hr (Or.inr (by decide)) dX2_init_28 (fun w3 => ?_)
  refine z_ret dX2_init_31 rfl ?_
  exact ⟨rfl, rfl, rfl, by omega, by omega, w3, zLe.rf⟩
set_option maxRecDepth 20000 in
theorem K_X7_init {l : Launch} {d : Nat} {D : zD} {b0 : Nat} {g : zG} {f : zI} {X : Nat → Prop} (hw : zOK b0 X g) (a : Nat) (x : Int32) (c : Nat) (ha : zIn b0 g a 7) (hX : X a) (hc : zIn b0 g c 15) (hd : 1 ≤ d) : zM l d D b0 mX7_init [.ref a, .int x, .ref c] g f (zCx b0 X g none (uR (uI (g, f) a 0 x) a 1 (some c)) 0 0) := by
  refine zM.start zmd_X7_init (Nat.le_of_ble_eq_true rfl) ⟨rfl, rfl, rfl, trivial⟩ [some (.ref a), some (.int x), some (.ref c)] rfl ?_
  refine z_aload0 dX7_init_0 ?_
  refine z_objInit zl_RX7_1 zin_objectInit zcd_objectInit rfl (by omega) dX7_init_1 ?_
  refine z_aload0 dX7_init_4 ?_
  refine z_iload1 dX7_init_5 ?_
  refine z_putFI fl_RX7_7 rfl rfl ha dX7_init_6 ?_
  refine z_aload0 dX7_init_9 ?_
  refine z_aload2 dX7_init_10 ?_
  refine zw_putFXs hw fl_RX7_13 (by decide) (Or.inr ⟨_, rfl⟩) rfl rfl ha hc (Or.inl hX) dX7_init_11 (fun w1 => ?_)
  refine z_ret dX7_init_14 rfl ?_
  exact ⟨rfl, rfl, rfl, by omega, by omega, w1, zLe.rf⟩
