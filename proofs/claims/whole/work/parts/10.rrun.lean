/-! The reference's run: what each method answers and does, over the table M. -/
def pkind (M : zI) (x : Int32) : Int32 := M 1 (5 * tn x)
def parg (M : zI) (x : Int32) : Int32 := M 1 (5 * tn x + 1)
def ppart (M : zI) (x k : Int32) : Int32 := M 1 (5 * tn x + 1 + tn k)
def pof (M : zI) (x k : Int32) : Int32 := M 4 (7 * tn x + tn k)
def puses (M : zI) (x : Int32) : Int32 := M 2 (3630 + 3 * tn x + 2)
def pdepth (M : zI) : Int32 := if M 2 7 = -9 then 0 else pof M (M 2 7) 6
def ppush (M : zI) (k n e s x : Int32) : zI :=
  let t := 7 * tn (M 2 21)
  let M1 := zup M 2 21 (M 2 21 + 1)
  let M2 := zup (zup (zup (zup (zup M1 4 (t + 0) k) 4 (t + 1) n) 4 (t + 2) e) 4 (t + 3) s) 4 (t + 4) x
  let M3 := zup M2 4 (t + 5) (M2 2 7)
  let M4 := zup M3 4 (t + 6) (pdepth M3 + 1)
  let M5 := zup M4 2 7 (M 2 21)
  zup M5 2 8 (if M5 2 8 < pdepth M5 then pdepth M5 else M5 2 8)
def pfocusOn (M : zI) (n e s : Int32) : zI := zup (zup (zup (zup M 2 16 2) 2 17 n) 2 18 e) 2 19 s
def pbecome (M : zI) (v : Int32) : zI :=
  let M1 := zup (zup M 2 16 1) 2 20 v
  zup M1 2 5 (if M1 2 7 = -9 then 2 else 1)
def pbindTo (M : zI) (e c v : Int32) : zI :=
  let t := 3 * tn (M 2 22)
  zup (zup (zup (zup M 2 22 (M 2 22 + 1)) 2 (30 + t) c) 2 (30 + t + 1) v) 2 (30 + t + 2) e
def pframeOf (k : Int32) : Int32 := if k = 6 then 3 else if k = 7 then 4 else if k = 8 then 5 else if k = 9 then 6 else if k = 10 then 7 else if k = 11 then 8 else if k = 12 then 9 else if k = 13 then 10 else if k = 14 then 11 else if k = 15 then 12 else 1
def presult (k a b : Int32) : Int32 := if k = 2 then a + b else if k = 3 then a - b else if k = 4 then a * b else if a < b then 1 else 0
def ptrace0 (M : zI) (v : Int32) : zI := if M 2 9 < 60 then (let M1 := zup M 2 (8430 + tn (M 2 9)) v; zup M1 2 9 (M1 2 9 + 1)) else M
def pmakeRes (M : zI) (t n : Int32) : zI :=
  let q := 3 * tn (M 2 11)
  zup (zup (zup (zup M 2 11 (M 2 11 + 1)) 2 (3630 + q) t) 2 (3630 + q + 1) n) 2 (3630 + q + 2) 0
def pcheck (M : zI) : zI := if M 2 5 = 1 ∧ M 2 6 = 1000 then zup (zup M 2 5 5) 2 16 0 else M
def pexec (M : zI) (x v : Int32) : zI :=
  let M1 := zup M 2 (7230 + tn (pof M x 4)) 1
  let M2 := zup M1 2 14 (M1 2 14 + 1)
  let M3 := ppush M2 13 (-9) (-9) (-9) v
  pfocusOn M3 (ppart M3 (pof M3 x 1) 2) (pof M3 x 2) (pof M3 x 3)
theorem tn_0 : tn 0 = 0 := rfl
theorem tn_1 : tn 1 = 1 := rfl
theorem tn_2 : tn 2 = 2 := rfl
theorem tn_3 : tn 3 = 3 := rfl
set_option maxRecDepth 20000 in
theorem R_X12_kind {l : Launch} {d : Nat} {D : zD} {b0 : Nat} {g : zG} {f M : zI} {o : Nat} (hW : RW b0 g o) (x : Int32) (hx : iv 65000 x) : zM l d D b0 mX12_kind [.ref o, .int x] g (rv o f M) (zEx (some (.int (pkind M x))) g (rv o f M)) := by
  have hx1 := hx.1
  refine zM.start zmd_X12_kind (Nat.le_of_ble_eq_true rfl) ⟨rfl, rfl, trivial⟩ [some (.ref o), some (.int x)] rfl ?_
  refine z_aload0 dX12_kind_0 ?_
  refine z_getRs fl_RX12_8 (by decide) hW.o (hW.r 0 rfl) dX12_kind_1 ?_
  refine z_iconst (v := 5) dX12_kind_4 (by decide) ?_
  refine z_iload1 dX12_kind_5 ?_
  refine z_imul dX12_kind_6 ?_
  refine zr_ld hW (i := 0) rfl (by decide) (by decide) (ixM (ixC 5) hx.2) (by omega) dX12_kind_7 ?_
  refine z_iret dX12_kind_8 rfl ?_
  exact ⟨rfl, rfl, rfl, rfl, rfl⟩
set_option maxRecDepth 20000 in
theorem R_X12_argument {l : Launch} {d : Nat} {D : zD} {b0 : Nat} {g : zG} {f M : zI} {o : Nat} (hW : RW b0 g o) (x : Int32) (hx : iv 65000 x) : zM l d D b0 mX12_argument [.ref o, .int x] g (rv o f M) (zEx (some (.int (parg M x))) g (rv o f M)) := by
  have hx1 := hx.1
  refine zM.start zmd_X12_argument (Nat.le_of_ble_eq_true rfl) ⟨rfl, rfl, trivial⟩ [some (.ref o), some (.int x)] rfl ?_
  refine z_aload0 dX12_argument_0 ?_
  refine z_getRs fl_RX12_8 (by decide) hW.o (hW.r 0 rfl) dX12_argument_1 ?_
  refine z_iconst (v := 5) dX12_argument_4 (by decide) ?_
  refine z_iload1 dX12_argument_5 ?_
  refine z_imul dX12_argument_6 ?_
  refine z_iconst (v := 1) dX12_argument_7 (by decide) ?_
  refine z_iadd dX12_argument_8 ?_
  refine zr_ld hW (i := 0) rfl (by decide) (by decide) (ixA (ixM (ixC 5) hx.2) (ixC 1)) (by omega) dX12_argument_9 ?_
  refine z_iret dX12_argument_10 rfl ?_
  exact ⟨rfl, rfl, rfl, rfl, rfl⟩
set_option maxRecDepth 20000 in
theorem R_X12_part {l : Launch} {d : Nat} {D : zD} {b0 : Nat} {g : zG} {f M : zI} {o : Nat} (hW : RW b0 g o) (x : Int32) (hx : iv 65000 x) (k : Int32) (hk : iv 4 k) : zM l d D b0 mX12_part [.ref o, .int x, .int k] g (rv o f M) (zEx (some (.int (ppart M x k))) g (rv o f M)) := by
  have hx1 := hx.1
  have hk1 := hk.1
  refine zM.start zmd_X12_part (Nat.le_of_ble_eq_true rfl) ⟨rfl, rfl, rfl, trivial⟩ [some (.ref o), some (.int x), some (.int k)] rfl ?_
  refine z_aload0 dX12_part_0 ?_
  refine z_getRs fl_RX12_8 (by decide) hW.o (hW.r 0 rfl) dX12_part_1 ?_
  refine z_iconst (v := 5) dX12_part_4 (by decide) ?_
  refine z_iload1 dX12_part_5 ?_
  refine z_imul dX12_part_6 ?_
  refine z_iconst (v := 1) dX12_part_7 (by decide) ?_
  refine z_iadd dX12_part_8 ?_
  refine z_iload2 dX12_part_9 ?_
  refine z_iadd dX12_part_10 ?_
  refine zr_ld hW (i := 0) rfl (by decide) (by decide) (ixA (ixA (ixM (ixC 5) hx.2) (ixC 1)) hk.2) (by omega) dX12_part_11 ?_
  refine z_iret dX12_part_12 rfl ?_
  exact ⟨rfl, rfl, rfl, rfl, rfl⟩
set_option maxRecDepth 20000 in
theorem R_X12_of {l : Launch} {d : Nat} {D : zD} {b0 : Nat} {g : zG} {f M : zI} {o : Nat} (hW : RW b0 g o) (x : Int32) (hx : iv 40000 x) (k : Int32) (hk : iv 7 k) : zM l d D b0 mX12_of [.ref o, .int x, .int k] g (rv o f M) (zEx (some (.int (pof M x k))) g (rv o f M)) := by
  have hx1 := hx.1
  have hk1 := hk.1
  refine zM.start zmd_X12_of (Nat.le_of_ble_eq_true rfl) ⟨rfl, rfl, rfl, trivial⟩ [some (.ref o), some (.int x), some (.int k)] rfl ?_
  refine z_aload0 dX12_of_0 ?_
  refine z_getRs fl_RX12_21 (by decide) hW.o (hW.r 3 rfl) dX12_of_1 ?_
  refine z_bipush (v := 7) dX12_of_4 (by decide) ?_
  refine z_iload1 dX12_of_6 ?_
  refine z_imul dX12_of_7 ?_
  refine z_iload2 dX12_of_8 ?_
  refine z_iadd dX12_of_9 ?_
  refine zr_ld hW (i := 3) rfl (by decide) (by decide) (ixA (ixM (ixC 7) hx.2) hk.2) (by omega) dX12_of_10 ?_
  refine z_iret dX12_of_11 rfl ?_
  exact ⟨rfl, rfl, rfl, rfl, rfl⟩
set_option maxRecDepth 20000 in
theorem R_X12_uses {l : Launch} {d : Nat} {D : zD} {b0 : Nat} {g : zG} {f M : zI} {o : Nat} (hW : RW b0 g o) (x : Int32) (hx : iv 1200 x) : zM l d D b0 mX12_uses [.ref o, .int x] g (rv o f M) (zEx (some (.int (puses M x))) g (rv o f M)) := by
  have hx1 := hx.1
  refine zM.start zmd_X12_uses (Nat.le_of_ble_eq_true rfl) ⟨rfl, rfl, trivial⟩ [some (.ref o), some (.int x)] rfl ?_
  refine z_aload0 dX12_uses_0 ?_
  refine z_getRs fl_RX12_14 (by decide) hW.o (hW.r 1 rfl) dX12_uses_1 ?_
  refine z_sipush (v := 3630) dX12_uses_4 (by decide) ?_
  refine z_iconst (v := 3) dX12_uses_7 (by decide) ?_
  refine z_iload1 dX12_uses_8 ?_
  refine z_imul dX12_uses_9 ?_
  refine z_iadd dX12_uses_10 ?_
  refine z_iconst (v := 2) dX12_uses_11 (by decide) ?_
  refine z_iadd dX12_uses_12 ?_
  refine zr_ld hW (i := 1) rfl (by decide) (by decide) (ixA (ixA (ixC 3630) (ixM (ixC 3) hx.2)) (ixC 2)) (by omega) dX12_uses_13 ?_
  refine z_iret dX12_uses_14 rfl ?_
  exact ⟨rfl, rfl, rfl, rfl, rfl⟩
set_option maxRecDepth 20000 in
theorem R_X12_isIn {l : Launch} {d : Nat} {D : zD} {b0 : Nat} {g : zG} {f M : zI} {o : Nat} (hW : RW b0 g o) (x y z : Int32) : zM l d D b0 mX12_isIn [.int x, .int y, .int z] g (rv o f M) (zEx (some (.int (zB (¬ x < y ∧ ¬ z < x)))) g (rv o f M)) := by
  refine zM.start zmd_X12_isIn (Nat.le_of_ble_eq_true rfl) ⟨rfl, rfl, rfl, trivial⟩ [some (.int x), some (.int y), some (.int z)] rfl ?_
  refine z_iload0 dX12_isIn_0 ?_
  refine z_iload1 dX12_isIn_1 ?_
  refine z_icmp_lt (tgt := 14) dX12_isIn_2 (by decide) (fun c2 => ?_) (fun c2 => ?_)
  · show zS _ _ _ _ _ _ _ 14 _ _ _ _ _
    refine z_iconst (v := 0) dX12_isIn_14 (by decide) ?_
    refine z_iret dX12_isIn_15 rfl ?_
    refine ⟨?_, rfl, rfl, rfl, rfl⟩
    first | rw [zB1 ⟨‹¬ x < y›, ‹¬ z < x›⟩] | rw [zB0 (fun q => absurd ‹x < y› q.1)] | rw [zB0 (fun q => absurd ‹z < x› q.2)]
  · show zS _ _ _ _ _ _ _ 5 _ _ _ _ _
    refine z_iload0 dX12_isIn_5 ?_
    refine z_iload2 dX12_isIn_6 ?_
    refine z_icmp_gt (tgt := 14) dX12_isIn_7 (by decide) (fun c7 => ?_) (fun c7 => ?_)
    · show zS _ _ _ _ _ _ _ 14 _ _ _ _ _
      refine z_iconst (v := 0) dX12_isIn_14 (by decide) ?_
      refine z_iret dX12_isIn_15 rfl ?_
      refine ⟨?_, rfl, rfl, rfl, rfl⟩
      first | rw [zB1 ⟨‹¬ x < y›, ‹¬ z < x›⟩] | rw [zB0 (fun q => absurd ‹x < y› q.1)] | rw [zB0 (fun q => absurd ‹z < x› q.2)]
    · show zS _ _ _ _ _ _ _ 10 _ _ _ _ _
      refine z_iconst (v := 1) dX12_isIn_10 (by decide) ?_
      refine z_goto (tgt := 15) dX12_isIn_11 (by decide) ?_
      show zS _ _ _ _ _ _ _ 15 _ _ _ _ _
      refine z_iret dX12_isIn_15 rfl ?_
      refine ⟨?_, rfl, rfl, rfl, rfl⟩
      first | rw [zB1 ⟨‹¬ x < y›, ‹¬ z < x›⟩] | rw [zB0 (fun q => absurd ‹x < y› q.1)] | rw [zB0 (fun q => absurd ‹z < x› q.2)]
set_option maxRecDepth 20000 in
theorem R_X12_depth {l : Launch} {d : Nat} {D : zD} {b0 : Nat} {g : zG} {f M : zI} {o : Nat} (hW : RW b0 g o) (hT : vd 40000 (M 2 7)) (hd : 1 ≤ d) : zM l d D b0 mX12_depth [.ref o] g (rv o f M) (zEx (some (.int (pdepth M))) g (rv o f M)) := by
  refine zM.start zmd_X12_depth (Nat.le_of_ble_eq_true rfl) ⟨rfl, trivial⟩ [some (.ref o)] rfl ?_
  refine z_aload0 dX12_depth_0 ?_
  refine z_getRs fl_RX12_14 (by decide) hW.o (hW.r 1 rfl) dX12_depth_1 ?_
  refine z_bipush (v := 7) dX12_depth_4 (by decide) ?_
  refine zr_ld hW (i := 1) rfl (by decide) (by decide) (ixC 7) (by decide) dX12_depth_6 ?_
  refine z_bipush (v := (-9)) dX12_depth_7 (by decide) ?_
  refine z_icmp_ne (tgt := 16) dX12_depth_9 (by decide) (fun c9 => ?_) (fun c9 => ?_)
  · show zS _ _ _ _ _ _ _ 16 _ _ _ _ _
    refine z_aload0 dX12_depth_16 ?_
    refine z_aload0 dX12_depth_17 ?_
    refine z_getRs fl_RX12_14 (by decide) hW.o (hW.r 1 rfl) dX12_depth_18 ?_
    refine z_bipush (v := 7) dX12_depth_21 (by decide) ?_
    refine zr_ld hW (i := 1) rfl (by decide) (by decide) (ixC 7) (by decide) dX12_depth_23 ?_
    refine z_bipush (v := 6) dX12_depth_24 (by decide) ?_
    refine z_callVi zmd_X12_of rfl (by decide) zl_RX12_213 zin_X12_of zsel_X12_of (R_X12_of (d := d - 1) hW _ (hT.iv c9) _ (⟨by decide, by decide⟩ : iv 7 (6 : Int32))) hW.o rfl rfl (by omega) rfl dX12_depth_26 ?_
    refine z_iret dX12_depth_29 rfl ?_
    refine ⟨congrArg (fun z => some (Value.int z)) ?_, rfl, rfl, rfl, rfl⟩
    first | exact (if_pos (by assumption)).symm | exact (if_neg (by assumption)).symm
  · show zS _ _ _ _ _ _ _ 12 _ _ _ _ _
    refine z_iconst (v := 0) dX12_depth_12 (by decide) ?_
    refine z_goto (tgt := 29) dX12_depth_13 (by decide) ?_
    show zS _ _ _ _ _ _ _ 29 _ _ _ _ _
    refine z_iret dX12_depth_29 rfl ?_
    refine ⟨congrArg (fun z => some (Value.int z)) ?_, rfl, rfl, rfl, rfl⟩
    first | exact (if_pos (by assumption)).symm | exact (if_neg (by assumption)).symm
set_option maxRecDepth 20000 in
theorem R_X12_push {l : Launch} {d : Nat} {D : zD} {b0 : Nat} {g : zG} {f M : zI} {o : Nat} (hW : RW b0 g o) (k n e s x : Int32) (hF : iv 39999 (M 2 21)) (hT : vd 40000 (M 2 7)) (hd : 2 ≤ d) : zM l d D b0 mX12_push [.ref o, .int k, .int n, .int e, .int s, .int x] g (rv o f M) (zEx none g (rv o f (ppush M k n e s x))) := by
  have hF1 := hF.1
  refine zM.start zmd_X12_push (Nat.le_of_ble_eq_true rfl) ⟨rfl, rfl, rfl, rfl, rfl, rfl, trivial⟩ [some (.ref o), some (.int k), some (.int n), some (.int e), some (.int s), some (.int x), none] rfl ?_
  refine z_aload0 dX12_push_0 ?_
  refine z_getRs fl_RX12_14 (by decide) hW.o (hW.r 1 rfl) dX12_push_1 ?_
  refine z_bipush (v := 21) dX12_push_4 (by decide) ?_
  refine zr_ld hW (i := 1) rfl (by decide) (by decide) (ixC 21) (by decide) dX12_push_6 ?_
  refine z_istore6 dX12_push_7 ?_
  refine z_aload0 dX12_push_9 ?_
  refine z_getRs fl_RX12_14 (by decide) hW.o (hW.r 1 rfl) dX12_push_10 ?_
  refine z_bipush (v := 21) dX12_push_13 (by decide) ?_
  refine z_dup2 dX12_push_15 ?_
  refine zr_ld hW (i := 1) rfl (by decide) (by decide) (ixC 21) (by decide) dX12_push_16 ?_
  refine z_iconst (v := 1) dX12_push_17 (by decide) ?_
  show zS _ _ _ _ _ _ _ 18 _ _ _ _ _
  refine z_iadd dX12_push_18 ?_
  refine zr_st hW (i := 1) rfl (by decide) (by decide) (ixC 21) (by decide) dX12_push_19 ?_
  refine z_aload0 dX12_push_20 ?_
  refine z_getRs fl_RX12_21 (by decide) hW.o (hW.r 3 rfl) dX12_push_21 ?_
  refine z_bipush (v := 7) dX12_push_24 (by decide) ?_
  refine z_iload6 dX12_push_26 ?_
  refine z_imul dX12_push_28 ?_
  refine z_iconst (v := 0) dX12_push_29 (by decide) ?_
  refine z_iadd dX12_push_30 ?_
  refine z_iload1 dX12_push_31 ?_
  refine zr_st hW (i := 3) rfl (by decide) (by decide) (ixA (ixM (ixC 7) hF.2) (ixC 0)) (by omega) dX12_push_32 ?_
  refine z_aload0 dX12_push_33 ?_
  show zS _ _ _ _ _ _ _ 34 _ _ _ _ _
  refine z_getRs fl_RX12_21 (by decide) hW.o (hW.r 3 rfl) dX12_push_34 ?_
  refine z_bipush (v := 7) dX12_push_37 (by decide) ?_
  refine z_iload6 dX12_push_39 ?_
  refine z_imul dX12_push_41 ?_
  refine z_iconst (v := 1) dX12_push_42 (by decide) ?_
  refine z_iadd dX12_push_43 ?_
  refine z_iload2 dX12_push_44 ?_
  refine zr_st hW (i := 3) rfl (by decide) (by decide) (ixA (ixM (ixC 7) hF.2) (ixC 1)) (by omega) dX12_push_45 ?_
  refine z_aload0 dX12_push_46 ?_
  refine z_getRs fl_RX12_21 (by decide) hW.o (hW.r 3 rfl) dX12_push_47 ?_
  refine z_bipush (v := 7) dX12_push_50 (by decide) ?_
  refine z_iload6 dX12_push_52 ?_
  show zS _ _ _ _ _ _ _ 54 _ _ _ _ _
  refine z_imul dX12_push_54 ?_
  refine z_iconst (v := 2) dX12_push_55 (by decide) ?_
  refine z_iadd dX12_push_56 ?_
  refine z_iload3 dX12_push_57 ?_
  refine zr_st hW (i := 3) rfl (by decide) (by decide) (ixA (ixM (ixC 7) hF.2) (ixC 2)) (by omega) dX12_push_58 ?_
  refine z_aload0 dX12_push_59 ?_
  refine z_getRs fl_RX12_21 (by decide) hW.o (hW.r 3 rfl) dX12_push_60 ?_
  refine z_bipush (v := 7) dX12_push_63 (by decide) ?_
  refine z_iload6 dX12_push_65 ?_
  refine z_imul dX12_push_67 ?_
  refine z_iconst (v := 3) dX12_push_68 (by decide) ?_
  refine z_iadd dX12_push_69 ?_
  show zS _ _ _ _ _ _ _ 70 _ _ _ _ _
  refine z_iload4 dX12_push_70 ?_
  refine zr_st hW (i := 3) rfl (by decide) (by decide) (ixA (ixM (ixC 7) hF.2) (ixC 3)) (by omega) dX12_push_72 ?_
  refine z_aload0 dX12_push_73 ?_
  refine z_getRs fl_RX12_21 (by decide) hW.o (hW.r 3 rfl) dX12_push_74 ?_
  refine z_bipush (v := 7) dX12_push_77 (by decide) ?_
  refine z_iload6 dX12_push_79 ?_
  refine z_imul dX12_push_81 ?_
  refine z_iconst (v := 4) dX12_push_82 (by decide) ?_
  refine z_iadd dX12_push_83 ?_
  refine z_iload5 dX12_push_84 ?_
  refine zr_st hW (i := 3) rfl (by decide) (by decide) (ixA (ixM (ixC 7) hF.2) (ixC 4)) (by omega) dX12_push_86 ?_
  refine z_aload0 dX12_push_87 ?_
  show zS _ _ _ _ _ _ _ 88 _ _ _ _ _
  refine z_getRs fl_RX12_21 (by decide) hW.o (hW.r 3 rfl) dX12_push_88 ?_
  refine z_bipush (v := 7) dX12_push_91 (by decide) ?_
  refine z_iload6 dX12_push_93 ?_
  refine z_imul dX12_push_95 ?_
  refine z_iconst (v := 5) dX12_push_96 (by decide) ?_
  refine z_iadd dX12_push_97 ?_
  refine z_aload0 dX12_push_98 ?_
  refine z_getRs fl_RX12_14 (by decide) hW.o (hW.r 1 rfl) dX12_push_99 ?_
  refine z_bipush (v := 7) dX12_push_102 (by decide) ?_
  refine zr_ld hW (i := 1) rfl (by decide) (by decide) (ixC 7) (by decide) dX12_push_104 ?_
  refine zr_st hW (i := 3) rfl (by decide) (by decide) (ixA (ixM (ixC 7) hF.2) (ixC 5)) (by omega) dX12_push_105 ?_
  refine z_aload0 dX12_push_106 ?_
  show zS _ _ _ _ _ _ _ 107 _ _ _ _ _
  refine z_getRs fl_RX12_21 (by decide) hW.o (hW.r 3 rfl) dX12_push_107 ?_
  refine z_bipush (v := 7) dX12_push_110 (by decide) ?_
  refine z_iload6 dX12_push_112 ?_
  refine z_imul dX12_push_114 ?_
  refine z_bipush (v := 6) dX12_push_115 (by decide) ?_
  refine z_iadd dX12_push_117 ?_
  refine z_aload0 dX12_push_118 ?_
  refine z_callVi zmd_X12_depth rfl (by decide) zl_RX12_216 zin_X12_depth zsel_X12_depth (R_X12_depth (d := d - 1) hW hT (by omega)) hW.o rfl rfl (by omega) rfl dX12_push_119 ?_
  refine z_iconst (v := 1) dX12_push_122 (by decide) ?_
  refine z_iadd dX12_push_123 ?_
  refine zr_st hW (i := 3) rfl (by decide) (by decide) (ixA (ixM (ixC 7) hF.2) (ixC 6)) (by omega) dX12_push_124 ?_
  refine z_aload0 dX12_push_125 ?_
  show zS _ _ _ _ _ _ _ 126 _ _ _ _ _
  refine z_getRs fl_RX12_14 (by decide) hW.o (hW.r 1 rfl) dX12_push_126 ?_
  refine z_bipush (v := 7) dX12_push_129 (by decide) ?_
  refine z_iload6 dX12_push_131 ?_
  refine zr_st hW (i := 1) rfl (by decide) (by decide) (ixC 7) (by decide) dX12_push_133 ?_
  refine z_aload0 dX12_push_134 ?_
  refine z_getRs fl_RX12_14 (by decide) hW.o (hW.r 1 rfl) dX12_push_135 ?_
  refine z_bipush (v := 8) dX12_push_138 (by decide) ?_
  refine z_aload0 dX12_push_140 ?_
  refine z_callVi zmd_X12_depth rfl (by decide) zl_RX12_216 zin_X12_depth zsel_X12_depth (R_X12_depth (d := d - 1) hW (Or.inr (hF.mono (by decide))) (by omega)) hW.o rfl rfl (by omega) rfl dX12_push_141 ?_
  refine z_aload0 dX12_push_144 ?_
  refine z_getRs fl_RX12_14 (by decide) hW.o (hW.r 1 rfl) dX12_push_145 ?_
  refine z_bipush (v := 8) dX12_push_148 (by decide) ?_
  show zS _ _ _ _ _ _ _ 150 _ _ _ _ _
  refine zr_ld hW (i := 1) rfl (by decide) (by decide) (ixC 8) (by decide) dX12_push_150 ?_
  refine z_icmp_le (tgt := 161) dX12_push_151 (by decide) (fun c151 => ?_) (fun c151 => ?_)
  · show zS _ _ _ _ _ _ _ 161 _ _ _ _ _
    refine z_aload0 dX12_push_161 ?_
    refine z_getRs fl_RX12_14 (by decide) hW.o (hW.r 1 rfl) dX12_push_162 ?_
    refine z_bipush (v := 8) dX12_push_165 (by decide) ?_
    refine zr_ld hW (i := 1) rfl (by decide) (by decide) (ixC 8) (by decide) dX12_push_167 ?_
    refine zr_st hW (i := 1) rfl (by decide) (by decide) (ixC 8) (by decide) dX12_push_168 ?_
    refine z_ret dX12_push_169 rfl ?_
    refine ⟨rfl, rfl, ?_, rfl, rfl⟩
    first | exact congrArg (fun z => rv o f (zup _ 2 8 z)) (if_neg (by assumption)).symm | exact congrArg (fun z => rv o f (zup _ 2 8 z)) (if_pos (by assumption)).symm
  · show zS _ _ _ _ _ _ _ 154 _ _ _ _ _
    refine z_aload0 dX12_push_154 ?_
    refine z_callVi zmd_X12_depth rfl (by decide) zl_RX12_216 zin_X12_depth zsel_X12_depth (R_X12_depth (d := d - 1) hW (Or.inr (hF.mono (by decide))) (by omega)) hW.o rfl rfl (by omega) rfl dX12_push_155 ?_
    refine z_goto (tgt := 168) dX12_push_158 (by decide) ?_
    show zS _ _ _ _ _ _ _ 168 _ _ _ _ _
    refine zr_st hW (i := 1) rfl (by decide) (by decide) (ixC 8) (by decide) dX12_push_168 ?_
    refine z_ret dX12_push_169 rfl ?_
    refine ⟨rfl, rfl, ?_, rfl, rfl⟩
    first | exact congrArg (fun z => rv o f (zup _ 2 8 z)) (if_neg (by assumption)).symm | exact congrArg (fun z => rv o f (zup _ 2 8 z)) (if_pos (by assumption)).symm
set_option maxRecDepth 20000 in
theorem R_X12_focusOn {l : Launch} {d : Nat} {D : zD} {b0 : Nat} {g : zG} {f M : zI} {o : Nat} (hW : RW b0 g o) (n e s : Int32) : zM l d D b0 mX12_focusOn [.ref o, .int n, .int e, .int s] g (rv o f M) (zEx none g (rv o f (pfocusOn M n e s))) := by
  refine zM.start zmd_X12_focusOn (Nat.le_of_ble_eq_true rfl) ⟨rfl, rfl, rfl, rfl, trivial⟩ [some (.ref o), some (.int n), some (.int e), some (.int s)] rfl ?_
  refine z_aload0 dX12_focusOn_0 ?_
  refine z_getRs fl_RX12_14 (by decide) hW.o (hW.r 1 rfl) dX12_focusOn_1 ?_
  refine z_bipush (v := 16) dX12_focusOn_4 (by decide) ?_
  refine z_iconst (v := 2) dX12_focusOn_6 (by decide) ?_
  refine zr_st hW (i := 1) rfl (by decide) (by decide) (ixC 16) (by decide) dX12_focusOn_7 ?_
  refine z_aload0 dX12_focusOn_8 ?_
  refine z_getRs fl_RX12_14 (by decide) hW.o (hW.r 1 rfl) dX12_focusOn_9 ?_
  refine z_bipush (v := 17) dX12_focusOn_12 (by decide) ?_
  refine z_iload1 dX12_focusOn_14 ?_
  refine zr_st hW (i := 1) rfl (by decide) (by decide) (ixC 17) (by decide) dX12_focusOn_15 ?_
  refine z_aload0 dX12_focusOn_16 ?_
  show zS _ _ _ _ _ _ _ 17 _ _ _ _ _
  refine z_getRs fl_RX12_14 (by decide) hW.o (hW.r 1 rfl) dX12_focusOn_17 ?_
  refine z_bipush (v := 18) dX12_focusOn_20 (by decide) ?_
  refine z_iload2 dX12_focusOn_22 ?_
  refine zr_st hW (i := 1) rfl (by decide) (by decide) (ixC 18) (by decide) dX12_focusOn_23 ?_
  refine z_aload0 dX12_focusOn_24 ?_
  refine z_getRs fl_RX12_14 (by decide) hW.o (hW.r 1 rfl) dX12_focusOn_25 ?_
  refine z_bipush (v := 19) dX12_focusOn_28 (by decide) ?_
  refine z_iload3 dX12_focusOn_30 ?_
  refine zr_st hW (i := 1) rfl (by decide) (by decide) (ixC 19) (by decide) dX12_focusOn_31 ?_
  refine z_ret dX12_focusOn_32 rfl ?_
  exact ⟨rfl, rfl, rfl, rfl, rfl⟩
set_option maxRecDepth 20000 in
theorem R_X12_become {l : Launch} {d : Nat} {D : zD} {b0 : Nat} {g : zG} {f M : zI} {o : Nat} (hW : RW b0 g o) (v : Int32) : zM l d D b0 mX12_become [.ref o, .int v] g (rv o f M) (zEx none g (rv o f (pbecome M v))) := by
  refine zM.start zmd_X12_become (Nat.le_of_ble_eq_true rfl) ⟨rfl, rfl, trivial⟩ [some (.ref o), some (.int v)] rfl ?_
  refine z_aload0 dX12_become_0 ?_
  refine z_getRs fl_RX12_14 (by decide) hW.o (hW.r 1 rfl) dX12_become_1 ?_
  refine z_bipush (v := 16) dX12_become_4 (by decide) ?_
  refine z_iconst (v := 1) dX12_become_6 (by decide) ?_
  refine zr_st hW (i := 1) rfl (by decide) (by decide) (ixC 16) (by decide) dX12_become_7 ?_
  refine z_aload0 dX12_become_8 ?_
  refine z_getRs fl_RX12_14 (by decide) hW.o (hW.r 1 rfl) dX12_become_9 ?_
  refine z_bipush (v := 20) dX12_become_12 (by decide) ?_
  refine z_iload1 dX12_become_14 ?_
  refine zr_st hW (i := 1) rfl (by decide) (by decide) (ixC 20) (by decide) dX12_become_15 ?_
  refine z_aload0 dX12_become_16 ?_
  show zS _ _ _ _ _ _ _ 17 _ _ _ _ _
  refine z_getRs fl_RX12_14 (by decide) hW.o (hW.r 1 rfl) dX12_become_17 ?_
  refine z_iconst (v := 5) dX12_become_20 (by decide) ?_
  refine z_aload0 dX12_become_21 ?_
  refine z_getRs fl_RX12_14 (by decide) hW.o (hW.r 1 rfl) dX12_become_22 ?_
  refine z_bipush (v := 7) dX12_become_25 (by decide) ?_
  refine zr_ld hW (i := 1) rfl (by decide) (by decide) (ixC 7) (by decide) dX12_become_27 ?_
  refine z_bipush (v := (-9)) dX12_become_28 (by decide) ?_
  refine z_icmp_ne (tgt := 37) dX12_become_30 (by decide) (fun c30 => ?_) (fun c30 => ?_)
  · show zS _ _ _ _ _ _ _ 37 _ _ _ _ _
    refine z_iconst (v := 1) dX12_become_37 (by decide) ?_
    refine zr_st hW (i := 1) rfl (by decide) (by decide) (ixC 5) (by decide) dX12_become_38 ?_
    refine z_ret dX12_become_39 rfl ?_
    refine ⟨rfl, rfl, ?_, rfl, rfl⟩
    first | exact congrArg (fun z => rv o f (zup _ 2 5 z)) (if_neg (by assumption)).symm | exact congrArg (fun z => rv o f (zup _ 2 5 z)) (if_pos (by assumption)).symm
  · show zS _ _ _ _ _ _ _ 33 _ _ _ _ _
    refine z_iconst (v := 2) dX12_become_33 (by decide) ?_
    refine z_goto (tgt := 38) dX12_become_34 (by decide) ?_
    show zS _ _ _ _ _ _ _ 38 _ _ _ _ _
    refine zr_st hW (i := 1) rfl (by decide) (by decide) (ixC 5) (by decide) dX12_become_38 ?_
    refine z_ret dX12_become_39 rfl ?_
    refine ⟨rfl, rfl, ?_, rfl, rfl⟩
    first | exact congrArg (fun z => rv o f (zup _ 2 5 z)) (if_neg (by assumption)).symm | exact congrArg (fun z => rv o f (zup _ 2 5 z)) (if_pos (by assumption)).symm
set_option maxRecDepth 20000 in
theorem R_X12_bindTo {l : Launch} {d : Nat} {D : zD} {b0 : Nat} {g : zG} {f M : zI} {o : Nat} (hW : RW b0 g o) (e c v : Int32) (hE : iv 1200 (M 2 22)) : zM l d D b0 mX12_bindTo [.ref o, .int e, .int c, .int v] g (rv o f M) (zEx (some (.int (M 2 22))) g (rv o f (pbindTo M e c v))) := by
  have hE1 := hE.1
  refine zM.start zmd_X12_bindTo (Nat.le_of_ble_eq_true rfl) ⟨rfl, rfl, rfl, rfl, trivial⟩ [some (.ref o), some (.int e), some (.int c), some (.int v), none] rfl ?_
  refine z_aload0 dX12_bindTo_0 ?_
  refine z_getRs fl_RX12_14 (by decide) hW.o (hW.r 1 rfl) dX12_bindTo_1 ?_
  refine z_bipush (v := 22) dX12_bindTo_4 (by decide) ?_
  refine zr_ld hW (i := 1) rfl (by decide) (by decide) (ixC 22) (by decide) dX12_bindTo_6 ?_
  refine z_istore4 dX12_bindTo_7 ?_
  refine z_aload0 dX12_bindTo_9 ?_
  refine z_getRs fl_RX12_14 (by decide) hW.o (hW.r 1 rfl) dX12_bindTo_10 ?_
  refine z_bipush (v := 22) dX12_bindTo_13 (by decide) ?_
  refine z_dup2 dX12_bindTo_15 ?_
  refine zr_ld hW (i := 1) rfl (by decide) (by decide) (ixC 22) (by decide) dX12_bindTo_16 ?_
  refine z_iconst (v := 1) dX12_bindTo_17 (by decide) ?_
  show zS _ _ _ _ _ _ _ 18 _ _ _ _ _
  refine z_iadd dX12_bindTo_18 ?_
  refine zr_st hW (i := 1) rfl (by decide) (by decide) (ixC 22) (by decide) dX12_bindTo_19 ?_
  refine z_aload0 dX12_bindTo_20 ?_
  refine z_getRs fl_RX12_14 (by decide) hW.o (hW.r 1 rfl) dX12_bindTo_21 ?_
  refine z_bipush (v := 30) dX12_bindTo_24 (by decide) ?_
  refine z_iconst (v := 3) dX12_bindTo_26 (by decide) ?_
  refine z_iload4 dX12_bindTo_27 ?_
  refine z_imul dX12_bindTo_29 ?_
  refine z_iadd dX12_bindTo_30 ?_
  refine z_iload2 dX12_bindTo_31 ?_
  refine zr_st hW (i := 1) rfl (by decide) (by decide) (ixA (ixC 30) (ixM (ixC 3) hE.2)) (by omega) dX12_bindTo_32 ?_
  refine z_aload0 dX12_bindTo_33 ?_
  show zS _ _ _ _ _ _ _ 34 _ _ _ _ _
  refine z_getRs fl_RX12_14 (by decide) hW.o (hW.r 1 rfl) dX12_bindTo_34 ?_
  refine z_bipush (v := 30) dX12_bindTo_37 (by decide) ?_
  refine z_iconst (v := 3) dX12_bindTo_39 (by decide) ?_
  refine z_iload4 dX12_bindTo_40 ?_
  refine z_imul dX12_bindTo_42 ?_
  refine z_iadd dX12_bindTo_43 ?_
  refine z_iconst (v := 1) dX12_bindTo_44 (by decide) ?_
  refine z_iadd dX12_bindTo_45 ?_
  refine z_iload3 dX12_bindTo_46 ?_
  refine zr_st hW (i := 1) rfl (by decide) (by decide) (ixA (ixA (ixC 30) (ixM (ixC 3) hE.2)) (ixC 1)) (by omega) dX12_bindTo_47 ?_
  refine z_aload0 dX12_bindTo_48 ?_
  refine z_getRs fl_RX12_14 (by decide) hW.o (hW.r 1 rfl) dX12_bindTo_49 ?_
  show zS _ _ _ _ _ _ _ 52 _ _ _ _ _
  refine z_bipush (v := 30) dX12_bindTo_52 (by decide) ?_
  refine z_iconst (v := 3) dX12_bindTo_54 (by decide) ?_
  refine z_iload4 dX12_bindTo_55 ?_
  refine z_imul dX12_bindTo_57 ?_
  refine z_iadd dX12_bindTo_58 ?_
  refine z_iconst (v := 2) dX12_bindTo_59 (by decide) ?_
  refine z_iadd dX12_bindTo_60 ?_
  refine z_iload1 dX12_bindTo_61 ?_
  refine zr_st hW (i := 1) rfl (by decide) (by decide) (ixA (ixA (ixC 30) (ixM (ixC 3) hE.2)) (ixC 2)) (by omega) dX12_bindTo_62 ?_
  refine z_iload4 dX12_bindTo_63 ?_
  refine z_iret dX12_bindTo_65 rfl ?_
  exact ⟨rfl, rfl, rfl, rfl, rfl⟩
set_option maxRecDepth 20000 in
theorem R_X12_frameOf {l : Launch} {d : Nat} {D : zD} {b0 : Nat} {g : zG} {f M : zI} {o : Nat} (hW : RW b0 g o) (k : Int32) : zM l d D b0 mX12_frameOf [.int k] g (rv o f M) (zEx (some (.int (pframeOf k))) g (rv o f M)) := by
  refine zM.start zmd_X12_frameOf (Nat.le_of_ble_eq_true rfl) ⟨rfl, trivial⟩ [some (.int k)] rfl ?_
  refine z_iload0 dX12_frameOf_0 ?_
  refine z_tab dX12_frameOf_1 (by decide +kernel) (by decide +kernel) ?_
  refine ⟨fun c1_0 => ?_, fun nc1_0 => ?_⟩
  · show zS _ _ _ _ _ _ _ 56 _ _ _ _ _
    refine z_iconst (v := 3) dX12_frameOf_56 (by decide) ?_
    refine z_iret dX12_frameOf_57 rfl ?_
    refine ⟨congrArg (fun z => some (Value.int z)) ?_, rfl, rfl, rfl, rfl⟩
    first | (rw [‹k = _›]; rfl) | exact ((if_neg nc1_0).trans ((if_neg nc1_1).trans ((if_neg nc1_2).trans ((if_neg nc1_3).trans ((if_neg nc1_4).trans ((if_neg nc1_5).trans ((if_neg nc1_6).trans ((if_neg nc1_7).trans ((if_neg nc1_8).trans ((if_neg nc1_9).trans (rfl))))))))))).symm
  refine ⟨fun c1_1 => ?_, fun nc1_1 => ?_⟩
  · show zS _ _ _ _ _ _ _ 58 _ _ _ _ _
    refine z_iconst (v := 4) dX12_frameOf_58 (by decide) ?_
    refine z_iret dX12_frameOf_59 rfl ?_
    refine ⟨congrArg (fun z => some (Value.int z)) ?_, rfl, rfl, rfl, rfl⟩
    first | (rw [‹k = _›]; rfl) | exact ((if_neg nc1_0).trans ((if_neg nc1_1).trans ((if_neg nc1_2).trans ((if_neg nc1_3).trans ((if_neg nc1_4).trans ((if_neg nc1_5).trans ((if_neg nc1_6).trans ((if_neg nc1_7).trans ((if_neg nc1_8).trans ((if_neg nc1_9).trans (rfl))))))))))).symm
  refine ⟨fun c1_2 => ?_, fun nc1_2 => ?_⟩
  · show zS _ _ _ _ _ _ _ 60 _ _ _ _ _
    refine z_iconst (v := 5) dX12_frameOf_60 (by decide) ?_
    refine z_iret dX12_frameOf_61 rfl ?_
    refine ⟨congrArg (fun z => some (Value.int z)) ?_, rfl, rfl, rfl, rfl⟩
    first | (rw [‹k = _›]; rfl) | exact ((if_neg nc1_0).trans ((if_neg nc1_1).trans ((if_neg nc1_2).trans ((if_neg nc1_3).trans ((if_neg nc1_4).trans ((if_neg nc1_5).trans ((if_neg nc1_6).trans ((if_neg nc1_7).trans ((if_neg nc1_8).trans ((if_neg nc1_9).trans (rfl))))))))))).symm
  refine ⟨fun c1_3 => ?_, fun nc1_3 => ?_⟩
  · show zS _ _ _ _ _ _ _ 62 _ _ _ _ _
    refine z_bipush (v := 6) dX12_frameOf_62 (by decide) ?_
    refine z_iret dX12_frameOf_64 rfl ?_
    refine ⟨congrArg (fun z => some (Value.int z)) ?_, rfl, rfl, rfl, rfl⟩
    first | (rw [‹k = _›]; rfl) | exact ((if_neg nc1_0).trans ((if_neg nc1_1).trans ((if_neg nc1_2).trans ((if_neg nc1_3).trans ((if_neg nc1_4).trans ((if_neg nc1_5).trans ((if_neg nc1_6).trans ((if_neg nc1_7).trans ((if_neg nc1_8).trans ((if_neg nc1_9).trans (rfl))))))))))).symm
  refine ⟨fun c1_4 => ?_, fun nc1_4 => ?_⟩
  · show zS _ _ _ _ _ _ _ 65 _ _ _ _ _
    refine z_bipush (v := 7) dX12_frameOf_65 (by decide) ?_
    refine z_iret dX12_frameOf_67 rfl ?_
    refine ⟨congrArg (fun z => some (Value.int z)) ?_, rfl, rfl, rfl, rfl⟩
    first | (rw [‹k = _›]; rfl) | exact ((if_neg nc1_0).trans ((if_neg nc1_1).trans ((if_neg nc1_2).trans ((if_neg nc1_3).trans ((if_neg nc1_4).trans ((if_neg nc1_5).trans ((if_neg nc1_6).trans ((if_neg nc1_7).trans ((if_neg nc1_8).trans ((if_neg nc1_9).trans (rfl))))))))))).symm
  refine ⟨fun c1_5 => ?_, fun nc1_5 => ?_⟩
  · show zS _ _ _ _ _ _ _ 68 _ _ _ _ _
    refine z_bipush (v := 8) dX12_frameOf_68 (by decide) ?_
    refine z_iret dX12_frameOf_70 rfl ?_
    refine ⟨congrArg (fun z => some (Value.int z)) ?_, rfl, rfl, rfl, rfl⟩
    first | (rw [‹k = _›]; rfl) | exact ((if_neg nc1_0).trans ((if_neg nc1_1).trans ((if_neg nc1_2).trans ((if_neg nc1_3).trans ((if_neg nc1_4).trans ((if_neg nc1_5).trans ((if_neg nc1_6).trans ((if_neg nc1_7).trans ((if_neg nc1_8).trans ((if_neg nc1_9).trans (rfl))))))))))).symm
  refine ⟨fun c1_6 => ?_, fun nc1_6 => ?_⟩
  · show zS _ _ _ _ _ _ _ 71 _ _ _ _ _
    refine z_bipush (v := 9) dX12_frameOf_71 (by decide) ?_
    refine z_iret dX12_frameOf_73 rfl ?_
    refine ⟨congrArg (fun z => some (Value.int z)) ?_, rfl, rfl, rfl, rfl⟩
    first | (rw [‹k = _›]; rfl) | exact ((if_neg nc1_0).trans ((if_neg nc1_1).trans ((if_neg nc1_2).trans ((if_neg nc1_3).trans ((if_neg nc1_4).trans ((if_neg nc1_5).trans ((if_neg nc1_6).trans ((if_neg nc1_7).trans ((if_neg nc1_8).trans ((if_neg nc1_9).trans (rfl))))))))))).symm
  refine ⟨fun c1_7 => ?_, fun nc1_7 => ?_⟩
  · show zS _ _ _ _ _ _ _ 74 _ _ _ _ _
    refine z_bipush (v := 10) dX12_frameOf_74 (by decide) ?_
    refine z_iret dX12_frameOf_76 rfl ?_
    refine ⟨congrArg (fun z => some (Value.int z)) ?_, rfl, rfl, rfl, rfl⟩
    first | (rw [‹k = _›]; rfl) | exact ((if_neg nc1_0).trans ((if_neg nc1_1).trans ((if_neg nc1_2).trans ((if_neg nc1_3).trans ((if_neg nc1_4).trans ((if_neg nc1_5).trans ((if_neg nc1_6).trans ((if_neg nc1_7).trans ((if_neg nc1_8).trans ((if_neg nc1_9).trans (rfl))))))))))).symm
  refine ⟨fun c1_8 => ?_, fun nc1_8 => ?_⟩
  · show zS _ _ _ _ _ _ _ 77 _ _ _ _ _
    refine z_bipush (v := 11) dX12_frameOf_77 (by decide) ?_
    refine z_iret dX12_frameOf_79 rfl ?_
    refine ⟨congrArg (fun z => some (Value.int z)) ?_, rfl, rfl, rfl, rfl⟩
    first | (rw [‹k = _›]; rfl) | exact ((if_neg nc1_0).trans ((if_neg nc1_1).trans ((if_neg nc1_2).trans ((if_neg nc1_3).trans ((if_neg nc1_4).trans ((if_neg nc1_5).trans ((if_neg nc1_6).trans ((if_neg nc1_7).trans ((if_neg nc1_8).trans ((if_neg nc1_9).trans (rfl))))))))))).symm
  refine ⟨fun c1_9 => ?_, fun nc1_9 => ?_⟩
  · show zS _ _ _ _ _ _ _ 80 _ _ _ _ _
    refine z_bipush (v := 12) dX12_frameOf_80 (by decide) ?_
    refine z_iret dX12_frameOf_82 rfl ?_
    refine ⟨congrArg (fun z => some (Value.int z)) ?_, rfl, rfl, rfl, rfl⟩
    first | (rw [‹k = _›]; rfl) | exact ((if_neg nc1_0).trans ((if_neg nc1_1).trans ((if_neg nc1_2).trans ((if_neg nc1_3).trans ((if_neg nc1_4).trans ((if_neg nc1_5).trans ((if_neg nc1_6).trans ((if_neg nc1_7).trans ((if_neg nc1_8).trans ((if_neg nc1_9).trans (rfl))))))))))).symm
  show zS _ _ _ _ _ _ _ 83 _ _ _ _ _
  refine z_iconst (v := 1) dX12_frameOf_83 (by decide) ?_
  refine z_iret dX12_frameOf_84 rfl ?_
  refine ⟨congrArg (fun z => some (Value.int z)) ?_, rfl, rfl, rfl, rfl⟩
  first | (rw [‹k = _›]; rfl) | exact ((if_neg nc1_0).trans ((if_neg nc1_1).trans ((if_neg nc1_2).trans ((if_neg nc1_3).trans ((if_neg nc1_4).trans ((if_neg nc1_5).trans ((if_neg nc1_6).trans ((if_neg nc1_7).trans ((if_neg nc1_8).trans ((if_neg nc1_9).trans (rfl))))))))))).symm
set_option maxRecDepth 20000 in
theorem R_X12_result {l : Launch} {d : Nat} {D : zD} {b0 : Nat} {g : zG} {f M : zI} {o : Nat} (hW : RW b0 g o) (k a b : Int32) : zM l d D b0 mX12_result [.int k, .int a, .int b] g (rv o f M) (zEx (some (.int (presult k a b))) g (rv o f M)) := by
  refine zM.start zmd_X12_result (Nat.le_of_ble_eq_true rfl) ⟨rfl, rfl, rfl, trivial⟩ [some (.int k), some (.int a), some (.int b)] rfl ?_
  refine z_iload0 dX12_result_0 ?_
  refine z_iconst (v := 2) dX12_result_1 (by decide) ?_
  refine z_icmp_ne (tgt := 11) dX12_result_2 (by decide) (fun c2 => ?_) (fun c2 => ?_)
  · show zS _ _ _ _ _ _ _ 11 _ _ _ _ _
    refine z_iload0 dX12_result_11 ?_
    refine z_iconst (v := 3) dX12_result_12 (by decide) ?_
    refine z_icmp_ne (tgt := 22) dX12_result_13 (by decide) (fun c13 => ?_) (fun c13 => ?_)
    · show zS _ _ _ _ _ _ _ 22 _ _ _ _ _
      refine z_iload0 dX12_result_22 ?_
      refine z_iconst (v := 4) dX12_result_23 (by decide) ?_
      refine z_icmp_ne (tgt := 33) dX12_result_24 (by decide) (fun c24 => ?_) (fun c24 => ?_)
      · show zS _ _ _ _ _ _ _ 33 _ _ _ _ _
        refine z_iload1 dX12_result_33 ?_
        refine z_iload2 dX12_result_34 ?_
        refine z_icmp_ge (tgt := 42) dX12_result_35 (by decide) (fun c35 => ?_) (fun c35 => ?_)
        · show zS _ _ _ _ _ _ _ 42 _ _ _ _ _
          refine z_iconst (v := 0) dX12_result_42 (by decide) ?_
          refine z_iret dX12_result_43 rfl ?_
          refine ⟨congrArg (fun z => some (Value.int z)) ?_, rfl, rfl, rfl, rfl⟩
          unfold presult
          simp only [if_pos, if_neg, *]
          try first | rfl | simp_all
        · show zS _ _ _ _ _ _ _ 38 _ _ _ _ _
          refine z_iconst (v := 1) dX12_result_38 (by decide) ?_
          refine z_goto (tgt := 43) dX12_result_39 (by decide) ?_
          show zS _ _ _ _ _ _ _ 43 _ _ _ _ _
          refine z_iret dX12_result_43 rfl ?_
          refine ⟨congrArg (fun z => some (Value.int z)) ?_, rfl, rfl, rfl, rfl⟩
          unfold presult
          simp only [if_pos, if_neg, *]
          try first | rfl | simp_all
      · show zS _ _ _ _ _ _ _ 27 _ _ _ _ _
        refine z_iload1 dX12_result_27 ?_
        refine z_iload2 dX12_result_28 ?_
        refine z_imul dX12_result_29 ?_
        refine z_goto (tgt := 43) dX12_result_30 (by decide) ?_
        show zS _ _ _ _ _ _ _ 43 _ _ _ _ _
        refine z_iret dX12_result_43 rfl ?_
        refine ⟨congrArg (fun z => some (Value.int z)) ?_, rfl, rfl, rfl, rfl⟩
        unfold presult
        simp only [if_pos, if_neg, *]
        try first | rfl | simp_all
    · show zS _ _ _ _ _ _ _ 16 _ _ _ _ _
      refine z_iload1 dX12_result_16 ?_
      refine z_iload2 dX12_result_17 ?_
      refine z_isub dX12_result_18 ?_
      refine z_goto (tgt := 43) dX12_result_19 (by decide) ?_
      show zS _ _ _ _ _ _ _ 43 _ _ _ _ _
      refine z_iret dX12_result_43 rfl ?_
      refine ⟨congrArg (fun z => some (Value.int z)) ?_, rfl, rfl, rfl, rfl⟩
      unfold presult
      simp only [if_pos, if_neg, *]
      try first | rfl | simp_all
  · show zS _ _ _ _ _ _ _ 5 _ _ _ _ _
    refine z_iload1 dX12_result_5 ?_
    refine z_iload2 dX12_result_6 ?_
    refine z_iadd dX12_result_7 ?_
    refine z_goto (tgt := 43) dX12_result_8 (by decide) ?_
    show zS _ _ _ _ _ _ _ 43 _ _ _ _ _
    refine z_iret dX12_result_43 rfl ?_
    refine ⟨congrArg (fun z => some (Value.int z)) ?_, rfl, rfl, rfl, rfl⟩
    unfold presult
    simp only [if_pos, if_neg, *]
    try first | rfl | simp_all
set_option maxRecDepth 20000 in
theorem R_X12_trace0 {l : Launch} {d : Nat} {D : zD} {b0 : Nat} {g : zG} {f M : zI} {o : Nat} (hW : RW b0 g o) (v : Int32) (hTr : iv 61 (M 2 9)) : zM l d D b0 mX12_trace0 [.ref o, .int v] g (rv o f M) (zEx none g (rv o f (ptrace0 M v))) := by
  have hT1 := hTr.1
  refine zM.start zmd_X12_trace0 (Nat.le_of_ble_eq_true rfl) ⟨rfl, rfl, trivial⟩ [some (.ref o), some (.int v)] rfl ?_
  refine z_aload0 dX12_trace0_0 ?_
  refine z_getRs fl_RX12_14 (by decide) hW.o (hW.r 1 rfl) dX12_trace0_1 ?_
  refine z_bipush (v := 9) dX12_trace0_4 (by decide) ?_
  refine zr_ld hW (i := 1) rfl (by decide) (by decide) (ixC 9) (by decide) dX12_trace0_6 ?_
  refine z_bipush (v := 60) dX12_trace0_7 (by decide) ?_
  refine z_icmp_ge (tgt := 40) dX12_trace0_9 (by decide) (fun c9 => ?_) (fun c9 => ?_)
  · show zS _ _ _ _ _ _ _ 40 _ _ _ _ _
    refine z_ret dX12_trace0_40 rfl ?_
    refine ⟨rfl, rfl, ?_, rfl, rfl⟩
    unfold ptrace0
    first | rw [if_pos (by assumption)] | rw [if_neg (by assumption)]
  · show zS _ _ _ _ _ _ _ 12 _ _ _ _ _
    refine z_aload0 dX12_trace0_12 ?_
    refine z_getRs fl_RX12_14 (by decide) hW.o (hW.r 1 rfl) dX12_trace0_13 ?_
    refine z_sipush (v := 8430) dX12_trace0_16 (by decide) ?_
    refine z_aload0 dX12_trace0_19 ?_
    refine z_getRs fl_RX12_14 (by decide) hW.o (hW.r 1 rfl) dX12_trace0_20 ?_
    refine z_bipush (v := 9) dX12_trace0_23 (by decide) ?_
    refine zr_ld hW (i := 1) rfl (by decide) (by decide) (ixC 9) (by decide) dX12_trace0_25 ?_
    have hlt : tn (M 2 9) < 60 := by
      have e := hTr.2
      rw [e] at c9
      exact (nI_ltI (b := 60) (by omega) (by decide)).mp c9
    refine z_iadd dX12_trace0_26 ?_
    refine z_iload1 dX12_trace0_27 ?_
    refine zr_st hW (i := 1) rfl (by decide) (by decide) (ixA (ixC 8430) hTr.2) (by omega) dX12_trace0_28 ?_
    refine z_aload0 dX12_trace0_29 ?_
    show zS _ _ _ _ _ _ _ 30 _ _ _ _ _
    refine z_getRs fl_RX12_14 (by decide) hW.o (hW.r 1 rfl) dX12_trace0_30 ?_
    refine z_bipush (v := 9) dX12_trace0_33 (by decide) ?_
    refine z_dup2 dX12_trace0_35 ?_
    refine zr_ld hW (i := 1) rfl (by decide) (by decide) (ixC 9) (by decide) dX12_trace0_36 ?_
    refine z_iconst (v := 1) dX12_trace0_37 (by decide) ?_
    refine z_iadd dX12_trace0_38 ?_
    refine zr_st hW (i := 1) rfl (by decide) (by decide) (ixC 9) (by decide) dX12_trace0_39 ?_
    refine z_ret dX12_trace0_40 rfl ?_
    refine ⟨rfl, rfl, ?_, rfl, rfl⟩
    unfold ptrace0
    first | rw [if_pos (by assumption)] | rw [if_neg (by assumption)]
set_option maxRecDepth 20000 in
theorem R_X12_makeResumption {l : Launch} {d : Nat} {D : zD} {b0 : Nat} {g : zG} {f M : zI} {o : Nat} (hW : RW b0 g o) (t n : Int32) (hM : iv 1200 (M 2 11)) : zM l d D b0 mX12_makeResumption [.ref o, .int t, .int n] g (rv o f M) (zEx (some (.int (M 2 11))) g (rv o f (pmakeRes M t n))) := by
  have hM1 := hM.1
  refine zM.start zmd_X12_makeResumption (Nat.le_of_ble_eq_true rfl) ⟨rfl, rfl, rfl, trivial⟩ [some (.ref o), some (.int t), some (.int n), none] rfl ?_
  refine z_aload0 dX12_makeResumption_0 ?_
  refine z_getRs fl_RX12_14 (by decide) hW.o (hW.r 1 rfl) dX12_makeResumption_1 ?_
  refine z_bipush (v := 11) dX12_makeResumption_4 (by decide) ?_
  refine zr_ld hW (i := 1) rfl (by decide) (by decide) (ixC 11) (by decide) dX12_makeResumption_6 ?_
  refine z_istore3 dX12_makeResumption_7 ?_
  refine z_aload0 dX12_makeResumption_8 ?_
  refine z_getRs fl_RX12_14 (by decide) hW.o (hW.r 1 rfl) dX12_makeResumption_9 ?_
  refine z_bipush (v := 11) dX12_makeResumption_12 (by decide) ?_
  refine z_dup2 dX12_makeResumption_14 ?_
  refine zr_ld hW (i := 1) rfl (by decide) (by decide) (ixC 11) (by decide) dX12_makeResumption_15 ?_
  refine z_iconst (v := 1) dX12_makeResumption_16 (by decide) ?_
  show zS _ _ _ _ _ _ _ 17 _ _ _ _ _
  refine z_iadd dX12_makeResumption_17 ?_
  refine zr_st hW (i := 1) rfl (by decide) (by decide) (ixC 11) (by decide) dX12_makeResumption_18 ?_
  refine z_aload0 dX12_makeResumption_19 ?_
  refine z_getRs fl_RX12_14 (by decide) hW.o (hW.r 1 rfl) dX12_makeResumption_20 ?_
  refine z_sipush (v := 3630) dX12_makeResumption_23 (by decide) ?_
  refine z_iconst (v := 3) dX12_makeResumption_26 (by decide) ?_
  refine z_iload3 dX12_makeResumption_27 ?_
  refine z_imul dX12_makeResumption_28 ?_
  refine z_iadd dX12_makeResumption_29 ?_
  refine z_iload1 dX12_makeResumption_30 ?_
  refine zr_st hW (i := 1) rfl (by decide) (by decide) (ixA (ixC 3630) (ixM (ixC 3) hM.2)) (by omega) dX12_makeResumption_31 ?_
  refine z_aload0 dX12_makeResumption_32 ?_
  show zS _ _ _ _ _ _ _ 33 _ _ _ _ _
  refine z_getRs fl_RX12_14 (by decide) hW.o (hW.r 1 rfl) dX12_makeResumption_33 ?_
  refine z_sipush (v := 3630) dX12_makeResumption_36 (by decide) ?_
  refine z_iconst (v := 3) dX12_makeResumption_39 (by decide) ?_
  refine z_iload3 dX12_makeResumption_40 ?_
  refine z_imul dX12_makeResumption_41 ?_
  refine z_iadd dX12_makeResumption_42 ?_
  refine z_iconst (v := 1) dX12_makeResumption_43 (by decide) ?_
  refine z_iadd dX12_makeResumption_44 ?_
  refine z_iload2 dX12_makeResumption_45 ?_
  refine zr_st hW (i := 1) rfl (by decide) (by decide) (ixA (ixA (ixC 3630) (ixM (ixC 3) hM.2)) (ixC 1)) (by omega) dX12_makeResumption_46 ?_
  refine z_aload0 dX12_makeResumption_47 ?_
  refine z_getRs fl_RX12_14 (by decide) hW.o (hW.r 1 rfl) dX12_makeResumption_48 ?_
  show zS _ _ _ _ _ _ _ 51 _ _ _ _ _
  refine z_sipush (v := 3630) dX12_makeResumption_51 (by decide) ?_
  refine z_iconst (v := 3) dX12_makeResumption_54 (by decide) ?_
  refine z_iload3 dX12_makeResumption_55 ?_
  refine z_imul dX12_makeResumption_56 ?_
  refine z_iadd dX12_makeResumption_57 ?_
  refine z_iconst (v := 2) dX12_makeResumption_58 (by decide) ?_
  refine z_iadd dX12_makeResumption_59 ?_
  refine z_iconst (v := 0) dX12_makeResumption_60 (by decide) ?_
  refine zr_st hW (i := 1) rfl (by decide) (by decide) (ixA (ixA (ixC 3630) (ixM (ixC 3) hM.2)) (ixC 2)) (by omega) dX12_makeResumption_61 ?_
  refine z_iload3 dX12_makeResumption_62 ?_
  refine z_iret dX12_makeResumption_63 rfl ?_
  exact ⟨rfl, rfl, rfl, rfl, rfl⟩
set_option maxRecDepth 20000 in
theorem R_X12_checkSteps {l : Launch} {d : Nat} {D : zD} {b0 : Nat} {g : zG} {f M : zI} {o : Nat} (hW : RW b0 g o)  : zM l d D b0 mX12_checkSteps [.ref o] g (rv o f M) (zEx none g (rv o f (pcheck M))) := by
  refine zM.start zmd_X12_checkSteps (Nat.le_of_ble_eq_true rfl) ⟨rfl, trivial⟩ [some (.ref o)] rfl ?_
  refine z_aload0 dX12_checkSteps_0 ?_
  refine z_getRs fl_RX12_14 (by decide) hW.o (hW.r 1 rfl) dX12_checkSteps_1 ?_
  refine z_iconst (v := 5) dX12_checkSteps_4 (by decide) ?_
  refine zr_ld hW (i := 1) rfl (by decide) (by decide) (ixC 5) (by decide) dX12_checkSteps_5 ?_
  refine z_iconst (v := 1) dX12_checkSteps_6 (by decide) ?_
  refine z_icmp_ne (tgt := 38) dX12_checkSteps_7 (by decide) (fun c7 => ?_) (fun c7 => ?_)
  · show zS _ _ _ _ _ _ _ 38 _ _ _ _ _
    refine z_ret dX12_checkSteps_38 rfl ?_
    refine ⟨rfl, rfl, ?_, rfl, rfl⟩
    unfold pcheck
    first | (rw [if_pos ⟨by assumption, by assumption⟩]; done) | (rw [if_neg (fun q => absurd q.1 (by assumption))]; done) | (rw [if_neg (fun q => absurd q.2 (by assumption))]; done)
  · show zS _ _ _ _ _ _ _ 10 _ _ _ _ _
    refine z_aload0 dX12_checkSteps_10 ?_
    refine z_getRs fl_RX12_14 (by decide) hW.o (hW.r 1 rfl) dX12_checkSteps_11 ?_
    refine z_bipush (v := 6) dX12_checkSteps_14 (by decide) ?_
    refine zr_ld hW (i := 1) rfl (by decide) (by decide) (ixC 6) (by decide) dX12_checkSteps_16 ?_
    refine z_sipush (v := 1000) dX12_checkSteps_17 (by decide) ?_
    refine z_icmp_ne (tgt := 38) dX12_checkSteps_20 (by decide) (fun c20 => ?_) (fun c20 => ?_)
    · show zS _ _ _ _ _ _ _ 38 _ _ _ _ _
      refine z_ret dX12_checkSteps_38 rfl ?_
      refine ⟨rfl, rfl, ?_, rfl, rfl⟩
      unfold pcheck
      first | (rw [if_pos ⟨by assumption, by assumption⟩]; done) | (rw [if_neg (fun q => absurd q.1 (by assumption))]; done) | (rw [if_neg (fun q => absurd q.2 (by assumption))]; done)
    · show zS _ _ _ _ _ _ _ 23 _ _ _ _ _
      refine z_aload0 dX12_checkSteps_23 ?_
      refine z_getRs fl_RX12_14 (by decide) hW.o (hW.r 1 rfl) dX12_checkSteps_24 ?_
      refine z_iconst (v := 5) dX12_checkSteps_27 (by decide) ?_
      refine z_iconst (v := 5) dX12_checkSteps_28 (by decide) ?_
      refine zr_st hW (i := 1) rfl (by decide) (by decide) (ixC 5) (by decide) dX12_checkSteps_29 ?_
      refine z_aload0 dX12_checkSteps_30 ?_
      refine z_getRs fl_RX12_14 (by decide) hW.o (hW.r 1 rfl) dX12_checkSteps_31 ?_
      refine z_bipush (v := 16) dX12_checkSteps_34 (by decide) ?_
      refine z_iconst (v := 0) dX12_checkSteps_36 (by decide) ?_
      refine zr_st hW (i := 1) rfl (by decide) (by decide) (ixC 16) (by decide) dX12_checkSteps_37 ?_
      refine z_ret dX12_checkSteps_38 rfl ?_
      refine ⟨rfl, rfl, ?_, rfl, rfl⟩
      unfold pcheck
      first | (rw [if_pos ⟨by assumption, by assumption⟩]; done) | (rw [if_neg (fun q => absurd q.1 (by assumption))]; done) | (rw [if_neg (fun q => absurd q.2 (by assumption))]; done)
