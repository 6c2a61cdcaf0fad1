/-! The reference's reading of texts, in literal form. -/
/-- the place in the text: at, and the length -/
def pat (M : zI) : Prop := iv 121 (M 0 14) ∧ iv 121 (M 0 8)
theorem pat.lt {M : zI} (h : pat M) (c : M 0 14 < M 0 8) : tn (M 0 14) < tn (M 0 8) := by
  rw [h.1.2, h.2.2] at c
  exact (nI_ltI (by have := h.1.1; omega) (by have := h.2.1; omega)).mp c
theorem pat.nlt {M : zI} (h : pat M) (c : ¬ M 0 14 < M 0 8) : tn (M 0 8) ≤ tn (M 0 14) := by
  rcases Nat.lt_or_ge (tn (M 0 14)) (tn (M 0 8)) with q | q
  · exact absurd (by rw [h.1.2, h.2.2]; exact nI_lt q (by have := h.2.1; omega)) c
  · exact q
def pskA : Nat → zI → zI
  | 0, M => M
  | k + 1, M => if M 0 14 < M 0 8 ∧ M 6 (tn (M 0 14)) = 32 then pskA k (zup M 0 14 (M 0 14 + 1)) else M
def pskip (M : zI) : zI := pskA 121 M
def phere (M : zI) : Int32 := if M 0 14 < M 0 8 then M 6 (tn (M 0 14)) else 0
def pfails (M : zI) : zI := zup M 0 15 (if M 0 15 = -9 then M 0 14 else M 0 15)
def pmake1 (M : zI) (k a : Int32) : zI :=
  let t := 5 * tn (M 0 1)
  zup (zup (zup (zup (zup (zup M 0 1 (M 0 1 + 1)) 1 t k) 1 (t + 1) a) 1 (t + 2) (-9)) 1 (t + 3) (-9)) 1 (t + 4) (-9)
def pmakeE (M1 : zI) (z : Int32) : zI := zup M1 0 16 (M1 0 16 + z)
def pmake (M : zI) (k a : Int32) : zI := pmakeE (pmake1 M k a) (if k = 16 then 0 else 1)
def patn (M : zI) : zI := zup M 0 14 (M 0 14 + 1)
theorem pat.next {M : zI} (h : pat M) (c : M 0 14 < M 0 8) : pat (patn M) := by
  have h1 := h.lt c
  have h2 := h.2.1
  refine ⟨?_, h.2⟩
  show iv 121 (M 0 14 + 1)
  rw [h.1.2, nI_1]
  exact iv_nI (by omega) (by decide)
theorem pskA_pat : ∀ (k : Nat) {M : zI}, pat M → pat (pskA k M) := by
  intro k
  induction k with
  | zero => intro M h; exact h
  | succ k ih =>
    intro M h
    unfold pskA
    by_cases c : M 0 14 < M 0 8 ∧ M 6 (tn (M 0 14)) = 32
    · rw [if_pos c]; exact ih (h.next c.1)
    · rw [if_neg c]; exact h
theorem pat.skip {M : zI} (h : pat M) : pat (pskip M) := pskA_pat _ h
set_option maxRecDepth 20000 in
theorem Rl_X12_skip {l : Launch} {d : Nat} {D : zD} {b0 : Nat} {g : zG} {f : zI} {o : Nat} (hW : RW b0 g o) : ∀ (j : Nat) (M : zI), pat M → tn (M 0 8) - tn (M 0 14) ≤ j → zS l d D b0 mX12_skip 0 0 0 [some (.ref o)] [] g (rv o f M) (zq D b0 (zEx none g (rv o f (pskA j M)))) := by
  intro j
  induction j with
  | zero =>
    intro M hp hj
    refine z_aload0 dX12_skip_0 ?_
    refine zr_getI fl_RX12_82 hW dX12_skip_1 ?_
    refine z_aload0 dX12_skip_4 ?_
    refine zr_getI fl_RX12_78 hW dX12_skip_5 ?_
    refine z_icmp_ge (tgt := 38) dX12_skip_8 (by decide) (fun c8 => ?_) (fun c8 => absurd (hp.lt c8) (by omega))
    refine z_ret dX12_skip_38 rfl ?_
    exact ⟨rfl, rfl, rfl, rfl, rfl⟩
  | succ j ih =>
    intro M hp hj
    have hp1 := hp.1.1
    refine z_aload0 dX12_skip_0 ?_
    refine zr_getI fl_RX12_82 hW dX12_skip_1 ?_
    refine z_aload0 dX12_skip_4 ?_
    refine zr_getI fl_RX12_78 hW dX12_skip_5 ?_
    refine z_icmp_ge (tgt := 38) dX12_skip_8 (by decide) (fun c8 => ?_) (fun c8 => ?_)
    · show zS _ _ _ _ _ _ _ 38 _ _ _ _ _
      refine z_ret dX12_skip_38 rfl ?_
      first | (rw [show pskA (j + 1) M = M from if_neg (fun q => absurd q.1 c8)]; exact ⟨rfl, rfl, rfl, rfl, rfl⟩) | (rw [show pskA (j + 1) M = M from if_neg (fun q => absurd q.2 c22)]; exact ⟨rfl, rfl, rfl, rfl, rfl⟩)
    · show zS _ _ _ _ _ _ _ 11 _ _ _ _ _
      have hlt := hp.lt c8
      have hl2 := hp.2.1
      refine z_aload0 dX12_skip_11 ?_
      refine z_getRs fl_RX12_28 (by decide) hW.o (hW.r 5 rfl) dX12_skip_12 ?_
      refine z_aload0 dX12_skip_15 ?_
      refine zr_getI fl_RX12_82 hW dX12_skip_16 ?_
      refine zr_ld hW (i := 5) rfl (by decide) (by decide) hp.1.2 (by omega) dX12_skip_19 ?_
      refine z_bipush (v := 32) dX12_skip_20 (by decide) ?_
      refine z_icmp_ne (tgt := 38) dX12_skip_22 (by decide) (fun c22 => ?_) (fun c22 => ?_)
      · show zS _ _ _ _ _ _ _ 38 _ _ _ _ _
        refine z_ret dX12_skip_38 rfl ?_
        first | (rw [show pskA (j + 1) M = M from if_neg (fun q => absurd q.1 c8)]; exact ⟨rfl, rfl, rfl, rfl, rfl⟩) | (rw [show pskA (j + 1) M = M from if_neg (fun q => absurd q.2 c22)]; exact ⟨rfl, rfl, rfl, rfl, rfl⟩)
      · show zS _ _ _ _ _ _ _ 25 _ _ _ _ _
        refine z_aload0 dX12_skip_25 ?_
        refine z_dup dX12_skip_26 ?_
        refine zr_getI fl_RX12_82 hW dX12_skip_27 ?_
        refine z_iconst (v := 1) dX12_skip_30 (by decide) ?_
        refine z_iadd dX12_skip_31 ?_
        refine zr_putI fl_RX12_82 hW dX12_skip_32 ?_
        refine z_goto (tgt := 0) dX12_skip_35 (by decide) ?_
        rw [show pskA (j + 1) M = _ from if_pos ⟨c8, c22⟩]
        exact ih _ (hp.next c8) (by have h1 := hp.lt c8; show tn (M 0 8) - tn (M 0 14 + 1) ≤ j; rw [show tn (M 0 14 + 1) = tn (M 0 14) + 1 from by have := hp.1.1; rw [hp.1.2, nI_1, tn_nI (by omega), tn_nI (by omega)]]; omega)
set_option maxRecDepth 20000 in
theorem R_X12_skip {l : Launch} {d : Nat} {D : zD} {b0 : Nat} {g : zG} {f M : zI} {o : Nat} (hW : RW b0 g o) (hp : pat M) : zM l d D b0 mX12_skip [.ref o] g (rv o f M) (zEx none g (rv o f (pskip M))) := by
  refine zM.start zmd_X12_skip (Nat.le_of_ble_eq_true rfl) ⟨rfl, trivial⟩ [some (.ref o)] rfl ?_
  exact Rl_X12_skip hW 121 M hp (by have := hp.2.1; omega)
set_option maxRecDepth 20000 in
theorem R_X12_here {l : Launch} {d : Nat} {D : zD} {b0 : Nat} {g : zG} {f M : zI} {o : Nat} (hW : RW b0 g o) (hp : pat M) : zM l d D b0 mX12_here [.ref o] g (rv o f M) (zEx (some (.int (phere M))) g (rv o f M)) := by
  refine zM.start zmd_X12_here (Nat.le_of_ble_eq_true rfl) ⟨rfl, trivial⟩ [some (.ref o)] rfl ?_
  refine z_aload0 dX12_here_0 ?_
  refine zr_getI fl_RX12_82 hW dX12_here_1 ?_
  refine z_aload0 dX12_here_4 ?_
  refine zr_getI fl_RX12_78 hW dX12_here_5 ?_
  refine z_icmp_ge (tgt := 23) dX12_here_8 (by decide) (fun c8 => ?_) (fun c8 => ?_)
  · show zS _ _ _ _ _ _ _ 23 _ _ _ _ _
    refine z_iconst (v := 0) dX12_here_23 (by decide) ?_
    refine z_iret dX12_here_24 rfl ?_
    refine ⟨congrArg (fun z => some (Value.int z)) ?_, rfl, rfl, rfl, rfl⟩
    first | exact (if_pos (by assumption)).symm | exact (if_neg (by assumption)).symm
  · show zS _ _ _ _ _ _ _ 11 _ _ _ _ _
    have hlt := hp.lt c8
    have hl2 := hp.2.1
    refine z_aload0 dX12_here_11 ?_
    refine z_getRs fl_RX12_28 (by decide) hW.o (hW.r 5 rfl) dX12_here_12 ?_
    refine z_aload0 dX12_here_15 ?_
    refine zr_getI fl_RX12_82 hW dX12_here_16 ?_
    refine zr_ld hW (i := 5) rfl (by decide) (by decide) hp.1.2 (by omega) dX12_here_19 ?_
    refine z_goto (tgt := 24) dX12_here_20 (by decide) ?_
    show zS _ _ _ _ _ _ _ 24 _ _ _ _ _
    refine z_iret dX12_here_24 rfl ?_
    refine ⟨congrArg (fun z => some (Value.int z)) ?_, rfl, rfl, rfl, rfl⟩
    first | exact (if_pos (by assumption)).symm | exact (if_neg (by assumption)).symm
set_option maxRecDepth 20000 in
theorem R_X12_fails {l : Launch} {d : Nat} {D : zD} {b0 : Nat} {g : zG} {f M : zI} {o : Nat} (hW : RW b0 g o)  : zM l d D b0 mX12_fails [.ref o] g (rv o f M) (zEx none g (rv o f (pfails M))) := by
  refine zM.start zmd_X12_fails (Nat.le_of_ble_eq_true rfl) ⟨rfl, trivial⟩ [some (.ref o)] rfl ?_
  refine z_aload0 dX12_fails_0 ?_
  refine z_aload0 dX12_fails_1 ?_
  refine zr_getI fl_RX12_85 hW dX12_fails_2 ?_
  refine z_bipush (v := (-9)) dX12_fails_5 (by decide) ?_
  refine z_icmp_ne (tgt := 17) dX12_fails_7 (by decide) (fun c7 => ?_) (fun c7 => ?_)
  · show zS _ _ _ _ _ _ _ 17 _ _ _ _ _
    refine z_aload0 dX12_fails_17 ?_
    refine zr_getI fl_RX12_85 hW dX12_fails_18 ?_
    refine zr_putI fl_RX12_85 hW dX12_fails_21 ?_
    refine z_ret dX12_fails_24 rfl ?_
    refine ⟨rfl, rfl, ?_, rfl, rfl⟩
    first | exact congrArg (fun z => rv o f (zup M 0 15 z)) (if_pos (by assumption)).symm | exact congrArg (fun z => rv o f (zup M 0 15 z)) (if_neg (by assumption)).symm
  · show zS _ _ _ _ _ _ _ 10 _ _ _ _ _
    refine z_aload0 dX12_fails_10 ?_
    refine zr_getI fl_RX12_82 hW dX12_fails_11 ?_
    refine z_goto (tgt := 21) dX12_fails_14 (by decide) ?_
    show zS _ _ _ _ _ _ _ 21 _ _ _ _ _
    refine zr_putI fl_RX12_85 hW dX12_fails_21 ?_
    refine z_ret dX12_fails_24 rfl ?_
    refine ⟨rfl, rfl, ?_, rfl, rfl⟩
    first | exact congrArg (fun z => rv o f (zup M 0 15 z)) (if_pos (by assumption)).symm | exact congrArg (fun z => rv o f (zup M 0 15 z)) (if_neg (by assumption)).symm
set_option maxRecDepth 20000 in
theorem R_X12_make {l : Launch} {d : Nat} {D : zD} {b0 : Nat} {g : zG} {f M : zI} {o : Nat} (hW : RW b0 g o) (k a : Int32) (hN : iv 65000 (M 0 1)) : zM l d D b0 mX12_make [.ref o, .int k, .int a] g (rv o f M) (zEx (some (.int (M 0 1))) g (rv o f (pmake M k a))) := by
  have hN1 := hN.1
  refine zM.start zmd_X12_make (Nat.le_of_ble_eq_true rfl) ⟨rfl, rfl, rfl, trivial⟩ [some (.ref o), some (.int k), some (.int a), none] rfl ?_
  refine z_aload0 dX12_make_0 ?_
  refine zr_getI fl_RX12_88 hW dX12_make_1 ?_
  refine z_istore3 dX12_make_4 ?_
  refine z_aload0 dX12_make_5 ?_
  refine z_dup dX12_make_6 ?_
  refine zr_getI fl_RX12_88 hW dX12_make_7 ?_
  refine z_iconst (v := 1) dX12_make_10 (by decide) ?_
  refine z_iadd dX12_make_11 ?_
  refine zr_putI fl_RX12_88 hW dX12_make_12 ?_
  refine z_aload0 dX12_make_15 ?_
  refine z_getRs fl_RX12_8 (by decide) hW.o (hW.r 0 rfl) dX12_make_16 ?_
  show zS _ _ _ _ _ _ _ 19 _ _ _ _ _
  refine z_iconst (v := 5) dX12_make_19 (by decide) ?_
  refine z_iload3 dX12_make_20 ?_
  refine z_imul dX12_make_21 ?_
  refine z_iload1 dX12_make_22 ?_
  refine zr_st hW (i := 0) rfl (by decide) (by decide) (ixM (ixC 5) hN.2) (by omega) dX12_make_23 ?_
  refine z_aload0 dX12_make_24 ?_
  refine z_getRs fl_RX12_8 (by decide) hW.o (hW.r 0 rfl) dX12_make_25 ?_
  refine z_iconst (v := 5) dX12_make_28 (by decide) ?_
  refine z_iload3 dX12_make_29 ?_
  refine z_imul dX12_make_30 ?_
  refine z_iconst (v := 1) dX12_make_31 (by decide) ?_
  refine z_iadd dX12_make_32 ?_
  show zS _ _ _ _ _ _ _ 33 _ _ _ _ _
  refine z_iload2 dX12_make_33 ?_
  refine zr_st hW (i := 0) rfl (by decide) (by decide) (ixA (ixM (ixC 5) hN.2) (ixC 1)) (by omega) dX12_make_34 ?_
  refine z_aload0 dX12_make_35 ?_
  refine z_getRs fl_RX12_8 (by decide) hW.o (hW.r 0 rfl) dX12_make_36 ?_
  refine z_iconst (v := 5) dX12_make_39 (by decide) ?_
  refine z_iload3 dX12_make_40 ?_
  refine z_imul dX12_make_41 ?_
  refine z_iconst (v := 2) dX12_make_42 (by decide) ?_
  refine z_iadd dX12_make_43 ?_
  refine z_bipush (v := (-9)) dX12_make_44 (by decide) ?_
  refine zr_st hW (i := 0) rfl (by decide) (by decide) (ixA (ixM (ixC 5) hN.2) (ixC 2)) (by omega) dX12_make_46 ?_
  refine z_aload0 dX12_make_47 ?_
  show zS _ _ _ _ _ _ _ 48 _ _ _ _ _
  refine z_getRs fl_RX12_8 (by decide) hW.o (hW.r 0 rfl) dX12_make_48 ?_
  refine z_iconst (v := 5) dX12_make_51 (by decide) ?_
  refine z_iload3 dX12_make_52 ?_
  refine z_imul dX12_make_53 ?_
  refine z_iconst (v := 3) dX12_make_54 (by decide) ?_
  refine z_iadd dX12_make_55 ?_
  refine z_bipush (v := (-9)) dX12_make_56 (by decide) ?_
  refine zr_st hW (i := 0) rfl (by decide) (by decide) (ixA (ixM (ixC 5) hN.2) (ixC 3)) (by omega) dX12_make_58 ?_
  refine z_aload0 dX12_make_59 ?_
  refine z_getRs fl_RX12_8 (by decide) hW.o (hW.r 0 rfl) dX12_make_60 ?_
  refine z_iconst (v := 5) dX12_make_63 (by decide) ?_
  refine z_iload3 dX12_make_64 ?_
  show zS _ _ _ _ _ _ _ 65 _ _ _ _ _
  refine z_imul dX12_make_65 ?_
  refine z_iconst (v := 4) dX12_make_66 (by decide) ?_
  refine z_iadd dX12_make_67 ?_
  refine z_bipush (v := (-9)) dX12_make_68 (by decide) ?_
  refine zr_st hW (i := 0) rfl (by decide) (by decide) (ixA (ixM (ixC 5) hN.2) (ixC 4)) (by omega) dX12_make_70 ?_
  refine z_aload0 dX12_make_71 ?_
  refine z_dup dX12_make_72 ?_
  refine zr_getI fl_RX12_91 hW dX12_make_73 ?_
  refine z_iload1 dX12_make_76 ?_
  refine z_bipush (v := 16) dX12_make_77 (by decide) ?_
  refine z_icmp_ne (tgt := 86) dX12_make_79 (by decide) (fun c79 => ?_) (fun c79 => ?_)
  · show zS _ _ _ _ _ _ _ 86 _ _ _ _ _
    refine z_iconst (v := 1) dX12_make_86 (by decide) ?_
    refine z_iadd dX12_make_87 ?_
    refine zr_putI fl_RX12_91 hW dX12_make_88 ?_
    refine z_iload3 dX12_make_91 ?_
    refine z_iret dX12_make_92 rfl ?_
    refine ⟨rfl, rfl, ?_, rfl, rfl⟩
    first | exact congrArg (fun z => rv o f (pmakeE (pmake1 M k a) z)) (if_pos (by assumption)).symm | exact congrArg (fun z => rv o f (pmakeE (pmake1 M k a) z)) (if_neg (by assumption)).symm
  · show zS _ _ _ _ _ _ _ 82 _ _ _ _ _
    refine z_iconst (v := 0) dX12_make_82 (by decide) ?_
    refine z_goto (tgt := 87) dX12_make_83 (by decide) ?_
    show zS _ _ _ _ _ _ _ 87 _ _ _ _ _
    refine z_iadd dX12_make_87 ?_
    refine zr_putI fl_RX12_91 hW dX12_make_88 ?_
    refine z_iload3 dX12_make_91 ?_
    refine z_iret dX12_make_92 rfl ?_
    refine ⟨rfl, rfl, ?_, rfl, rfl⟩
    first | exact congrArg (fun z => rv o f (pmakeE (pmake1 M k a) z)) (if_pos (by assumption)).symm | exact congrArg (fun z => rv o f (pmakeE (pmake1 M k a) z)) (if_neg (by assumption)).symm
def ptake (M : zI) (a b : Int32) : Int32 × zI := if phere (pskip M) < a ∨ b < phere (pskip M) then (0, pfails (pskip M)) else (M 6 (tn (pskip M 0 14)) - a, patn (pskip M))
theorem pskA_row : ∀ (k : Nat) (M : zI) (r : Nat), r ≠ 0 → pskA k M r = M r := by
  intro k
  induction k with
  | zero => intro M r h; rfl
  | succ k ih =>
    intro M r h
    unfold pskA
    split
    · rw [ih _ r h]
      funext c
      exact zup_ne _ _ _ _ (Or.inl h)
    · rfl
theorem pskip_row {M : zI} {r : Nat} (h : r ≠ 0) : pskip M r = M r := pskA_row _ _ _ h
theorem phere_0 {M : zI} (h : ¬ M 0 14 < M 0 8) : phere M = 0 := if_neg h
theorem phere_1 {M : zI} (h : M 0 14 < M 0 8) : phere M = M 6 (tn (M 0 14)) := if_pos h
set_option maxRecDepth 20000 in
theorem R_X12_take {l : Launch} {d : Nat} {D : zD} {b0 : Nat} {g : zG} {f M : zI} {o : Nat} (hW : RW b0 g o) (a b : Int32) (hp : pat M) (ha : 0 < a) (hd : 1 ≤ d) : zM l d D b0 mX12_take [.ref o, .int a, .int b] g (rv o f M) (zEx (some (.int ((ptake M a b).1))) g (rv o f ((ptake M a b).2))) := by
  refine zM.start zmd_X12_take (Nat.le_of_ble_eq_true rfl) ⟨rfl, rfl, rfl, trivial⟩ [some (.ref o), some (.int a), some (.int b)] rfl ?_
  refine z_aload0 dX12_take_0 ?_
  refine z_callVv zmd_X12_skip rfl (by decide) zl_RX12_94 zin_X12_skip zsel_X12_skip (R_X12_skip (d := d - 1) hW hp) hW.o rfl rfl (by omega) rfl dX12_take_1 ?_
  refine z_aload0 dX12_take_4 ?_
  refine z_callVi zmd_X12_here rfl (by decide) zl_RX12_97 zin_X12_here zsel_X12_here (R_X12_here (d := d - 1) hW hp.skip) hW.o rfl rfl (by omega) rfl dX12_take_5 ?_
  refine z_iload1 dX12_take_8 ?_
  refine z_iload2 dX12_take_9 ?_
  refine z_callSi zmd_X12_isIn zl_RX12_74 zst_X12_isIn (R_X12_isIn (d := d - 1) hW _ _ _) rfl rfl (by omega) rfl dX12_take_10 ?_
  refine z_if_ne (tgt := 22) dX12_take_13 (by decide) (fun c13 => ?_) (fun c13 => ?_)
  · show zS _ _ _ _ _ _ _ 22 _ _ _ _ _
    have hno := zByes c13
    have hlt0 : pskip M 0 14 < pskip M 0 8 := by
      rcases Decidable.em (pskip M 0 14 < pskip M 0 8) with q | q
      · exact q
      · exact absurd (Or.inl (by rw [phere_0 q]; exact ha)) hno
    have hp2 := hp.skip
    have hl1 := hp2.lt hlt0
    have hl2 := hp2.2.1
    have hix : (zup (pskip M) 0 14 (pskip M 0 14 + 1) 0 14 : Int32) - 1 = nI (tn (pskip M 0 14)) := by
      show pskip M 0 14 + 1 - 1 = _
      rw [Int32.add_sub_cancel]
      exact hp2.1.2
    refine z_aload0 dX12_take_22 ?_
    refine z_dup dX12_take_23 ?_
    refine zr_getI fl_RX12_82 hW dX12_take_24 ?_
    refine z_iconst (v := 1) dX12_take_27 (by decide) ?_
    refine z_iadd dX12_take_28 ?_
    refine zr_putI fl_RX12_82 hW dX12_take_29 ?_
    refine z_aload0 dX12_take_32 ?_
    refine z_getRs fl_RX12_28 (by decide) hW.o (hW.r 5 rfl) dX12_take_33 ?_
    refine z_aload0 dX12_take_36 ?_
    refine zr_getI fl_RX12_82 hW dX12_take_37 ?_
    refine z_iconst (v := 1) dX12_take_40 (by decide) ?_
    show zS _ _ _ _ _ _ _ 41 _ _ _ _ _
    refine z_isub dX12_take_41 ?_
    refine zr_ld hW (i := 5) rfl (by decide) (by decide) hix (by omega) dX12_take_42 ?_
    rw [show (zup (pskip M) 0 14 (pskip M 0 14 + 1) 6 (tn (pskip M 0 14)) : Int32) = M 6 (tn (pskip M 0 14)) from congrFun (pskip_row (by decide)) _]
    refine z_iload1 dX12_take_43 ?_
    refine z_isub dX12_take_44 ?_
    refine z_iret dX12_take_45 rfl ?_
    rw [show ptake M a b = (M 6 (tn (pskip M 0 14)) - a, patn (pskip M)) from if_neg hno]
    exact ⟨rfl, rfl, rfl, rfl, rfl⟩
  · show zS _ _ _ _ _ _ _ 16 _ _ _ _ _
    refine z_aload0 dX12_take_16 ?_
    refine z_callVv zmd_X12_fails rfl (by decide) zl_RX12_101 zin_X12_fails zsel_X12_fails (R_X12_fails (d := d - 1) hW ) hW.o rfl rfl (by omega) rfl dX12_take_17 ?_
    refine z_iconst (v := 0) dX12_take_20 (by decide) ?_
    refine z_iret dX12_take_21 rfl ?_
    rw [show ptake M a b = (0, pfails (pskip M)) from if_pos (zBno c13)]
    exact ⟨rfl, rfl, rfl, rfl, rfl⟩
def prnA : Nat → Int32 → zI → Int32 × zI
  | 0, v, M => (v, M)
  | k + 1, v, M => if phere M < 48 ∨ 57 < phere M then (v, M) else prnA k (10 * v + phere M - 48) (patn M)
def prnum (M : zI) : Int32 × zI := prnA 3 0 M
theorem phere_lt {M : zI} {a b : Int32} (ha : 0 < a) (h : ¬ (phere M < a ∨ b < phere M)) : M 0 14 < M 0 8 := by
  rcases Decidable.em (M 0 14 < M 0 8) with q | q
  · exact q
  · exact absurd (Or.inl (by rw [phere_0 q]; exact ha)) h
theorem prnA_pat : ∀ (k : Nat) (v : Int32) {M : zI}, pat M → pat (prnA k v M).2 := by
  intro k
  induction k with
  | zero => intro v M h; exact h
  | succ k ih =>
    intro v M h
    unfold prnA
    by_cases c : phere M < 48 ∨ 57 < phere M
    · rw [if_pos c]; exact h
    · rw [if_neg c]; exact ih _ (h.next (phere_lt (by decide) c))
set_option maxRecDepth 20000 in
theorem Rl_X12_readNumber {l : Launch} {d : Nat} {D : zD} {b0 : Nat} {g : zG} {f : zI} {o : Nat} (hW : RW b0 g o) (hd : 1 ≤ d) : ∀ (j k : Nat) (v : Int32) (M : zI), k + j = 3 → pat M → zS l d D b0 mX12_readNumber 0 0 4 [some (.ref o), some (.int v), some (.int (nI k))] [] g (rv o f M) (zq D b0 (zEx (some (.int (prnA j v M).1)) g (rv o f (prnA j v M).2))) := by
  intro j
  induction j with
  | zero =>
    intro k v M hk hp
    obtain rfl : k = 3 := by omega
    refine z_iload2 dX12_readNumber_4 ?_
    refine z_iconst (v := 3) dX12_readNumber_5 (by decide) ?_
    refine z_icmp_ge (tgt := 52) dX12_readNumber_6 (by decide) (fun c6 => ?_) (fun c6 => absurd c6 (by decide))
    refine z_iload1 dX12_readNumber_52 ?_
    refine z_iret dX12_readNumber_53 rfl ?_
    exact ⟨rfl, rfl, rfl, rfl, rfl⟩
  | succ j ih =>
    intro k v M hk hp
    refine z_iload2 dX12_readNumber_4 ?_
    refine z_iconst (v := 3) dX12_readNumber_5 (by decide) ?_
    refine z_icmp_ge (tgt := 52) dX12_readNumber_6 (by decide) (fun c6 => absurd (nI_lt (b := 3) (by omega) (by decide)) c6) (fun c6 => ?_)
    show zS _ _ _ _ _ _ _ 9 _ _ _ _ _
    refine z_aload0 dX12_readNumber_9 ?_
    refine z_callVi zmd_X12_here rfl (by decide) zl_RX12_97 zin_X12_here zsel_X12_here (R_X12_here (d := d - 1) hW hp) hW.o rfl rfl (by omega) rfl dX12_readNumber_10 ?_
    refine z_bipush (v := 48) dX12_readNumber_13 (by decide) ?_
    refine z_bipush (v := 57) dX12_readNumber_15 (by decide) ?_
    refine z_callSi zmd_X12_isIn zl_RX12_74 zst_X12_isIn (R_X12_isIn (d := d - 1) hW _ _ _) rfl rfl (by omega) rfl dX12_readNumber_17 ?_
    refine z_if_eq (tgt := 52) dX12_readNumber_20 (by decide) (fun c20 => ?_) (fun c20 => ?_)
    · show zS _ _ _ _ _ _ _ 52 _ _ _ _ _
      refine z_iload1 dX12_readNumber_52 ?_
      refine z_iret dX12_readNumber_53 rfl ?_
      rw [show prnA (j + 1) v M = (v, M) from if_pos (zBno c20)]
      exact ⟨rfl, rfl, rfl, rfl, rfl⟩
    · show zS _ _ _ _ _ _ _ 23 _ _ _ _ _
      refine z_bipush (v := 10) dX12_readNumber_23 (by decide) ?_
      refine z_iload1 dX12_readNumber_25 ?_
      refine z_imul dX12_readNumber_26 ?_
      refine z_aload0 dX12_readNumber_27 ?_
      refine z_callVi zmd_X12_here rfl (by decide) zl_RX12_97 zin_X12_here zsel_X12_here (R_X12_here (d := d - 1) hW hp) hW.o rfl rfl (by omega) rfl dX12_readNumber_28 ?_
      refine z_iadd dX12_readNumber_31 ?_
      refine z_bipush (v := 48) dX12_readNumber_32 (by decide) ?_
      refine z_isub dX12_readNumber_34 ?_
      refine z_istore1 dX12_readNumber_35 ?_
      refine z_aload0 dX12_readNumber_36 ?_
      refine z_dup dX12_readNumber_37 ?_
      show zS _ _ _ _ _ _ _ 38 _ _ _ _ _
      refine zr_getI fl_RX12_82 hW dX12_readNumber_38 ?_
      refine z_iconst (v := 1) dX12_readNumber_41 (by decide) ?_
      refine z_iadd dX12_readNumber_42 ?_
      refine zr_putI fl_RX12_82 hW dX12_readNumber_43 ?_
      refine z_iinc2 (y := 1) dX12_readNumber_46 (by decide) ?_
      refine z_goto (tgt := 4) dX12_readNumber_49 (by decide) ?_
      rw [nI_1, show prnA (j + 1) v M = _ from if_neg (zByes c20)]
      exact ih (k + 1) _ _ (by omega) (hp.next (phere_lt (by decide) (zByes c20)))
set_option maxRecDepth 20000 in
theorem R_X12_readNumber {l : Launch} {d : Nat} {D : zD} {b0 : Nat} {g : zG} {f M : zI} {o : Nat} (hW : RW b0 g o) (hp : pat M) (hd : 1 ≤ d) : zM l d D b0 mX12_readNumber [.ref o] g (rv o f M) (zEx (some (.int ((prnum M).1))) g (rv o f ((prnum M).2))) := by
  refine zM.start zmd_X12_readNumber (Nat.le_of_ble_eq_true rfl) ⟨rfl, trivial⟩ [some (.ref o), none, none] rfl ?_
  refine z_iconst (v := 0) dX12_readNumber_0 (by decide) ?_
  refine z_istore1 dX12_readNumber_1 ?_
  refine z_iconst (v := 0) dX12_readNumber_2 (by decide) ?_
  refine z_istore2 dX12_readNumber_3 ?_
  exact Rl_X12_readNumber hW hd 3 0 0 M (by omega) hp
def pkindOf (c : Int32) : Int32 := if c = 33 then 9 else if c = 37 then 12 else if c = 38 then 13 else if c = 42 then 4 else if c = 43 then 2 else if c = 45 then 3 else if c = 59 then 7 else if c = 60 then 5 else if c = 61 then 8 else if c = 63 then 6 else if c = 64 then 14 else if c = 94 then 10 else if c = 123 then 15 else if c = 126 then 11 else -9
set_option maxRecDepth 20000 in
theorem R_X12_kindOf {l : Launch} {d : Nat} {D : zD} {b0 : Nat} {g : zG} {f M : zI} {o : Nat} (hW : RW b0 g o) (c : Int32) : zM l d D b0 mX12_kindOf [.int c] g (rv o f M) (zEx (some (.int (pkindOf c))) g (rv o f M)) := by
  refine zM.start zmd_X12_kindOf (Nat.le_of_ble_eq_true rfl) ⟨rfl, trivial⟩ [some (.int c)] rfl ?_
  refine z_iload0 dX12_kindOf_0 ?_
  refine z_look dX12_kindOf_1 (by decide +kernel) (by decide +kernel) ?_
  refine ⟨fun c1_0 => ?_, fun nc1_0 => ?_⟩
  · show zS _ _ _ _ _ _ _ 141 _ _ _ _ _
    refine z_bipush (v := 9) dX12_kindOf_141 (by decide) ?_
    refine z_iret dX12_kindOf_143 rfl ?_
    refine ⟨congrArg (fun z => some (Value.int z)) ?_, rfl, rfl, rfl, rfl⟩
    first | (rw [‹c = _›]; rfl) | exact ((if_neg nc1_0).trans ((if_neg nc1_1).trans ((if_neg nc1_2).trans ((if_neg nc1_3).trans ((if_neg nc1_4).trans ((if_neg nc1_5).trans ((if_neg nc1_6).trans ((if_neg nc1_7).trans ((if_neg nc1_8).trans ((if_neg nc1_9).trans ((if_neg nc1_10).trans ((if_neg nc1_11).trans ((if_neg nc1_12).trans ((if_neg nc1_13).trans (rfl))))))))))))))).symm
  refine ⟨fun c1_1 => ?_, fun nc1_1 => ?_⟩
  · show zS _ _ _ _ _ _ _ 150 _ _ _ _ _
    refine z_bipush (v := 12) dX12_kindOf_150 (by decide) ?_
    refine z_iret dX12_kindOf_152 rfl ?_
    refine ⟨congrArg (fun z => some (Value.int z)) ?_, rfl, rfl, rfl, rfl⟩
    first | (rw [‹c = _›]; rfl) | exact ((if_neg nc1_0).trans ((if_neg nc1_1).trans ((if_neg nc1_2).trans ((if_neg nc1_3).trans ((if_neg nc1_4).trans ((if_neg nc1_5).trans ((if_neg nc1_6).trans ((if_neg nc1_7).trans ((if_neg nc1_8).trans ((if_neg nc1_9).trans ((if_neg nc1_10).trans ((if_neg nc1_11).trans ((if_neg nc1_12).trans ((if_neg nc1_13).trans (rfl))))))))))))))).symm
  refine ⟨fun c1_2 => ?_, fun nc1_2 => ?_⟩
  · show zS _ _ _ _ _ _ _ 153 _ _ _ _ _
    refine z_bipush (v := 13) dX12_kindOf_153 (by decide) ?_
    refine z_iret dX12_kindOf_155 rfl ?_
    refine ⟨congrArg (fun z => some (Value.int z)) ?_, rfl, rfl, rfl, rfl⟩
    first | (rw [‹c = _›]; rfl) | exact ((if_neg nc1_0).trans ((if_neg nc1_1).trans ((if_neg nc1_2).trans ((if_neg nc1_3).trans ((if_neg nc1_4).trans ((if_neg nc1_5).trans ((if_neg nc1_6).trans ((if_neg nc1_7).trans ((if_neg nc1_8).trans ((if_neg nc1_9).trans ((if_neg nc1_10).trans ((if_neg nc1_11).trans ((if_neg nc1_12).trans ((if_neg nc1_13).trans (rfl))))))))))))))).symm
  refine ⟨fun c1_3 => ?_, fun nc1_3 => ?_⟩
  · show zS _ _ _ _ _ _ _ 128 _ _ _ _ _
    refine z_iconst (v := 4) dX12_kindOf_128 (by decide) ?_
    refine z_iret dX12_kindOf_129 rfl ?_
    refine ⟨congrArg (fun z => some (Value.int z)) ?_, rfl, rfl, rfl, rfl⟩
    first | (rw [‹c = _›]; rfl) | exact ((if_neg nc1_0).trans ((if_neg nc1_1).trans ((if_neg nc1_2).trans ((if_neg nc1_3).trans ((if_neg nc1_4).trans ((if_neg nc1_5).trans ((if_neg nc1_6).trans ((if_neg nc1_7).trans ((if_neg nc1_8).trans ((if_neg nc1_9).trans ((if_neg nc1_10).trans ((if_neg nc1_11).trans ((if_neg nc1_12).trans ((if_neg nc1_13).trans (rfl))))))))))))))).symm
  refine ⟨fun c1_4 => ?_, fun nc1_4 => ?_⟩
  · show zS _ _ _ _ _ _ _ 124 _ _ _ _ _
    refine z_iconst (v := 2) dX12_kindOf_124 (by decide) ?_
    refine z_iret dX12_kindOf_125 rfl ?_
    refine ⟨congrArg (fun z => some (Value.int z)) ?_, rfl, rfl, rfl, rfl⟩
    first | (rw [‹c = _›]; rfl) | exact ((if_neg nc1_0).trans ((if_neg nc1_1).trans ((if_neg nc1_2).trans ((if_neg nc1_3).trans ((if_neg nc1_4).trans ((if_neg nc1_5).trans ((if_neg nc1_6).trans ((if_neg nc1_7).trans ((if_neg nc1_8).trans ((if_neg nc1_9).trans ((if_neg nc1_10).trans ((if_neg nc1_11).trans ((if_neg nc1_12).trans ((if_neg nc1_13).trans (rfl))))))))))))))).symm
  refine ⟨fun c1_5 => ?_, fun nc1_5 => ?_⟩
  · show zS _ _ _ _ _ _ _ 126 _ _ _ _ _
    refine z_iconst (v := 3) dX12_kindOf_126 (by decide) ?_
    refine z_iret dX12_kindOf_127 rfl ?_
    refine ⟨congrArg (fun z => some (Value.int z)) ?_, rfl, rfl, rfl, rfl⟩
    first | (rw [‹c = _›]; rfl) | exact ((if_neg nc1_0).trans ((if_neg nc1_1).trans ((if_neg nc1_2).trans ((if_neg nc1_3).trans ((if_neg nc1_4).trans ((if_neg nc1_5).trans ((if_neg nc1_6).trans ((if_neg nc1_7).trans ((if_neg nc1_8).trans ((if_neg nc1_9).trans ((if_neg nc1_10).trans ((if_neg nc1_11).trans ((if_neg nc1_12).trans ((if_neg nc1_13).trans (rfl))))))))))))))).symm
  refine ⟨fun c1_6 => ?_, fun nc1_6 => ?_⟩
  · show zS _ _ _ _ _ _ _ 135 _ _ _ _ _
    refine z_bipush (v := 7) dX12_kindOf_135 (by decide) ?_
    refine z_iret dX12_kindOf_137 rfl ?_
    refine ⟨congrArg (fun z => some (Value.int z)) ?_, rfl, rfl, rfl, rfl⟩
    first | (rw [‹c = _›]; rfl) | exact ((if_neg nc1_0).trans ((if_neg nc1_1).trans ((if_neg nc1_2).trans ((if_neg nc1_3).trans ((if_neg nc1_4).trans ((if_neg nc1_5).trans ((if_neg nc1_6).trans ((if_neg nc1_7).trans ((if_neg nc1_8).trans ((if_neg nc1_9).trans ((if_neg nc1_10).trans ((if_neg nc1_11).trans ((if_neg nc1_12).trans ((if_neg nc1_13).trans (rfl))))))))))))))).symm
  refine ⟨fun c1_7 => ?_, fun nc1_7 => ?_⟩
  · show zS _ _ _ _ _ _ _ 130 _ _ _ _ _
    refine z_iconst (v := 5) dX12_kindOf_130 (by decide) ?_
    refine z_iret dX12_kindOf_131 rfl ?_
    refine ⟨congrArg (fun z => some (Value.int z)) ?_, rfl, rfl, rfl, rfl⟩
    first | (rw [‹c = _›]; rfl) | exact ((if_neg nc1_0).trans ((if_neg nc1_1).trans ((if_neg nc1_2).trans ((if_neg nc1_3).trans ((if_neg nc1_4).trans ((if_neg nc1_5).trans ((if_neg nc1_6).trans ((if_neg nc1_7).trans ((if_neg nc1_8).trans ((if_neg nc1_9).trans ((if_neg nc1_10).trans ((if_neg nc1_11).trans ((if_neg nc1_12).trans ((if_neg nc1_13).trans (rfl))))))))))))))).symm
  refine ⟨fun c1_8 => ?_, fun nc1_8 => ?_⟩
  · show zS _ _ _ _ _ _ _ 138 _ _ _ _ _
    refine z_bipush (v := 8) dX12_kindOf_138 (by decide) ?_
    refine z_iret dX12_kindOf_140 rfl ?_
    refine ⟨congrArg (fun z => some (Value.int z)) ?_, rfl, rfl, rfl, rfl⟩
    first | (rw [‹c = _›]; rfl) | exact ((if_neg nc1_0).trans ((if_neg nc1_1).trans ((if_neg nc1_2).trans ((if_neg nc1_3).trans ((if_neg nc1_4).trans ((if_neg nc1_5).trans ((if_neg nc1_6).trans ((if_neg nc1_7).trans ((if_neg nc1_8).trans ((if_neg nc1_9).trans ((if_neg nc1_10).trans ((if_neg nc1_11).trans ((if_neg nc1_12).trans ((if_neg nc1_13).trans (rfl))))))))))))))).symm
  refine ⟨fun c1_9 => ?_, fun nc1_9 => ?_⟩
  · show zS _ _ _ _ _ _ _ 132 _ _ _ _ _
    refine z_bipush (v := 6) dX12_kindOf_132 (by decide) ?_
    refine z_iret dX12_kindOf_134 rfl ?_
    refine ⟨congrArg (fun z => some (Value.int z)) ?_, rfl, rfl, rfl, rfl⟩
    first | (rw [‹c = _›]; rfl) | exact ((if_neg nc1_0).trans ((if_neg nc1_1).trans ((if_neg nc1_2).trans ((if_neg nc1_3).trans ((if_neg nc1_4).trans ((if_neg nc1_5).trans ((if_neg nc1_6).trans ((if_neg nc1_7).trans ((if_neg nc1_8).trans ((if_neg nc1_9).trans ((if_neg nc1_10).trans ((if_neg nc1_11).trans ((if_neg nc1_12).trans ((if_neg nc1_13).trans (rfl))))))))))))))).symm
  refine ⟨fun c1_10 => ?_, fun nc1_10 => ?_⟩
  · show zS _ _ _ _ _ _ _ 156 _ _ _ _ _
    refine z_bipush (v := 14) dX12_kindOf_156 (by decide) ?_
    refine z_iret dX12_kindOf_158 rfl ?_
    refine ⟨congrArg (fun z => some (Value.int z)) ?_, rfl, rfl, rfl, rfl⟩
    first | (rw [‹c = _›]; rfl) | exact ((if_neg nc1_0).trans ((if_neg nc1_1).trans ((if_neg nc1_2).trans ((if_neg nc1_3).trans ((if_neg nc1_4).trans ((if_neg nc1_5).trans ((if_neg nc1_6).trans ((if_neg nc1_7).trans ((if_neg nc1_8).trans ((if_neg nc1_9).trans ((if_neg nc1_10).trans ((if_neg nc1_11).trans ((if_neg nc1_12).trans ((if_neg nc1_13).trans (rfl))))))))))))))).symm
  refine ⟨fun c1_11 => ?_, fun nc1_11 => ?_⟩
  · show zS _ _ _ _ _ _ _ 144 _ _ _ _ _
    refine z_bipush (v := 10) dX12_kindOf_144 (by decide) ?_
    refine z_iret dX12_kindOf_146 rfl ?_
    refine ⟨congrArg (fun z => some (Value.int z)) ?_, rfl, rfl, rfl, rfl⟩
    first | (rw [‹c = _›]; rfl) | exact ((if_neg nc1_0).trans ((if_neg nc1_1).trans ((if_neg nc1_2).trans ((if_neg nc1_3).trans ((if_neg nc1_4).trans ((if_neg nc1_5).trans ((if_neg nc1_6).trans ((if_neg nc1_7).trans ((if_neg nc1_8).trans ((if_neg nc1_9).trans ((if_neg nc1_10).trans ((if_neg nc1_11).trans ((if_neg nc1_12).trans ((if_neg nc1_13).trans (rfl))))))))))))))).symm
  refine ⟨fun c1_12 => ?_, fun nc1_12 => ?_⟩
  · show zS _ _ _ _ _ _ _ 159 _ _ _ _ _
    refine z_bipush (v := 15) dX12_kindOf_159 (by decide) ?_
    refine z_iret dX12_kindOf_161 rfl ?_
    refine ⟨congrArg (fun z => some (Value.int z)) ?_, rfl, rfl, rfl, rfl⟩
    first | (rw [‹c = _›]; rfl) | exact ((if_neg nc1_0).trans ((if_neg nc1_1).trans ((if_neg nc1_2).trans ((if_neg nc1_3).trans ((if_neg nc1_4).trans ((if_neg nc1_5).trans ((if_neg nc1_6).trans ((if_neg nc1_7).trans ((if_neg nc1_8).trans ((if_neg nc1_9).trans ((if_neg nc1_10).trans ((if_neg nc1_11).trans ((if_neg nc1_12).trans ((if_neg nc1_13).trans (rfl))))))))))))))).symm
  refine ⟨fun c1_13 => ?_, fun nc1_13 => ?_⟩
  · show zS _ _ _ _ _ _ _ 147 _ _ _ _ _
    refine z_bipush (v := 11) dX12_kindOf_147 (by decide) ?_
    refine z_iret dX12_kindOf_149 rfl ?_
    refine ⟨congrArg (fun z => some (Value.int z)) ?_, rfl, rfl, rfl, rfl⟩
    first | (rw [‹c = _›]; rfl) | exact ((if_neg nc1_0).trans ((if_neg nc1_1).trans ((if_neg nc1_2).trans ((if_neg nc1_3).trans ((if_neg nc1_4).trans ((if_neg nc1_5).trans ((if_neg nc1_6).trans ((if_neg nc1_7).trans ((if_neg nc1_8).trans ((if_neg nc1_9).trans ((if_neg nc1_10).trans ((if_neg nc1_11).trans ((if_neg nc1_12).trans ((if_neg nc1_13).trans (rfl))))))))))))))).symm
  show zS _ _ _ _ _ _ _ 162 _ _ _ _ _
  refine z_bipush (v := (-9)) dX12_kindOf_162 (by decide) ?_
  refine z_iret dX12_kindOf_164 rfl ?_
  refine ⟨congrArg (fun z => some (Value.int z)) ?_, rfl, rfl, rfl, rfl⟩
  first | (rw [‹c = _›]; rfl) | exact ((if_neg nc1_0).trans ((if_neg nc1_1).trans ((if_neg nc1_2).trans ((if_neg nc1_3).trans ((if_neg nc1_4).trans ((if_neg nc1_5).trans ((if_neg nc1_6).trans ((if_neg nc1_7).trans ((if_neg nc1_8).trans ((if_neg nc1_9).trans ((if_neg nc1_10).trans ((if_neg nc1_11).trans ((if_neg nc1_12).trans ((if_neg nc1_13).trans (rfl))))))))))))))).symm
def preadArg (M : zI) (k : Int32) : Int32 × zI := if k = 8 then ptake M 97 122 else if k = 9 then (0, M) else if k = 10 then ptake M 65 70 else if k = 11 then ptake M 65 70 else if k = 12 then (0, M) else if k = 13 then ptake M 48 51 else (0, M)
theorem preadArg_k {M : zI} {k k' : Int32} (h : k = k') : preadArg M k = preadArg M k' := by rw [h]
set_option maxRecDepth 20000 in
theorem R_X12_readArgument {l : Launch} {d : Nat} {D : zD} {b0 : Nat} {g : zG} {f M : zI} {o : Nat} (hW : RW b0 g o) (k : Int32) (hp : pat M) (hd : 2 ≤ d) : zM l d D b0 mX12_readArgument [.ref o, .int k] g (rv o f M) (zEx (some (.int ((preadArg M k).1))) g (rv o f ((preadArg M k).2))) := by
  refine zM.start zmd_X12_readArgument (Nat.le_of_ble_eq_true rfl) ⟨rfl, rfl, trivial⟩ [some (.ref o), some (.int k)] rfl ?_
  refine z_iload1 dX12_readArgument_0 ?_
  refine z_tab dX12_readArgument_1 (by decide +kernel) (by decide +kernel) ?_
  refine ⟨fun c1_0 => ?_, fun nc1_0 => ?_⟩
  · show zS _ _ _ _ _ _ _ 40 _ _ _ _ _
    refine z_aload0 dX12_readArgument_40 ?_
    refine z_bipush (v := 97) dX12_readArgument_41 (by decide) ?_
    refine z_bipush (v := 122) dX12_readArgument_43 (by decide) ?_
    refine z_callVi zmd_X12_take rfl (by decide) zl_RX12_104 zin_X12_take zsel_X12_take (R_X12_take (d := d - 1) hW _ _ hp (by decide) (by omega)) hW.o rfl rfl (by omega) rfl dX12_readArgument_45 ?_
    refine z_iret dX12_readArgument_48 rfl ?_
    rw [‹k = _›]
    exact ⟨rfl, rfl, rfl, rfl, rfl⟩
  refine ⟨fun c1_1 => ?_, fun nc1_1 => ?_⟩
  · show zS _ _ _ _ _ _ _ 67 _ _ _ _ _
    refine z_iconst (v := 0) dX12_readArgument_67 (by decide) ?_
    refine z_iret dX12_readArgument_68 rfl ?_
    first | (rw [‹k = _›]; exact ⟨rfl, rfl, rfl, rfl, rfl⟩) | (rw [show preadArg M k = (0, M) from (if_neg nc1_0).trans ((if_neg nc1_1).trans ((if_neg nc1_2).trans ((if_neg nc1_3).trans ((if_neg nc1_4).trans ((if_neg nc1_5).trans (rfl))))))]; exact ⟨rfl, rfl, rfl, rfl, rfl⟩)
  refine ⟨fun c1_2 => ?_, fun nc1_2 => ?_⟩
  · show zS _ _ _ _ _ _ _ 49 _ _ _ _ _
    refine z_aload0 dX12_readArgument_49 ?_
    refine z_bipush (v := 65) dX12_readArgument_50 (by decide) ?_
    refine z_bipush (v := 70) dX12_readArgument_52 (by decide) ?_
    refine z_callVi zmd_X12_take rfl (by decide) zl_RX12_104 zin_X12_take zsel_X12_take (R_X12_take (d := d - 1) hW _ _ hp (by decide) (by omega)) hW.o rfl rfl (by omega) rfl dX12_readArgument_54 ?_
    refine z_iret dX12_readArgument_57 rfl ?_
    rw [‹k = _›]
    exact ⟨rfl, rfl, rfl, rfl, rfl⟩
  refine ⟨fun c1_3 => ?_, fun nc1_3 => ?_⟩
  · show zS _ _ _ _ _ _ _ 49 _ _ _ _ _
    refine z_aload0 dX12_readArgument_49 ?_
    refine z_bipush (v := 65) dX12_readArgument_50 (by decide) ?_
    refine z_bipush (v := 70) dX12_readArgument_52 (by decide) ?_
    refine z_callVi zmd_X12_take rfl (by decide) zl_RX12_104 zin_X12_take zsel_X12_take (R_X12_take (d := d - 1) hW _ _ hp (by decide) (by omega)) hW.o rfl rfl (by omega) rfl dX12_readArgument_54 ?_
    refine z_iret dX12_readArgument_57 rfl ?_
    rw [‹k = _›]
    exact ⟨rfl, rfl, rfl, rfl, rfl⟩
  refine ⟨fun c1_4 => ?_, fun nc1_4 => ?_⟩
  · show zS _ _ _ _ _ _ _ 67 _ _ _ _ _
    refine z_iconst (v := 0) dX12_readArgument_67 (by decide) ?_
    refine z_iret dX12_readArgument_68 rfl ?_
    first | (rw [‹k = _›]; exact ⟨rfl, rfl, rfl, rfl, rfl⟩) | (rw [show preadArg M k = (0, M) from (if_neg nc1_0).trans ((if_neg nc1_1).trans ((if_neg nc1_2).trans ((if_neg nc1_3).trans ((if_neg nc1_4).trans ((if_neg nc1_5).trans (rfl))))))]; exact ⟨rfl, rfl, rfl, rfl, rfl⟩)
  refine ⟨fun c1_5 => ?_, fun nc1_5 => ?_⟩
  · show zS _ _ _ _ _ _ _ 58 _ _ _ _ _
    refine z_aload0 dX12_readArgument_58 ?_
    refine z_bipush (v := 48) dX12_readArgument_59 (by decide) ?_
    refine z_bipush (v := 51) dX12_readArgument_61 (by decide) ?_
    refine z_callVi zmd_X12_take rfl (by decide) zl_RX12_104 zin_X12_take zsel_X12_take (R_X12_take (d := d - 1) hW _ _ hp (by decide) (by omega)) hW.o rfl rfl (by omega) rfl dX12_readArgument_63 ?_
    refine z_iret dX12_readArgument_66 rfl ?_
    rw [‹k = _›]
    exact ⟨rfl, rfl, rfl, rfl, rfl⟩
  show zS _ _ _ _ _ _ _ 67 _ _ _ _ _
  refine z_iconst (v := 0) dX12_readArgument_67 (by decide) ?_
  refine z_iret dX12_readArgument_68 rfl ?_
  first | (rw [‹k = _›]; exact ⟨rfl, rfl, rfl, rfl, rfl⟩) | (rw [show preadArg M k = (0, M) from (if_neg nc1_0).trans ((if_neg nc1_1).trans ((if_neg nc1_2).trans ((if_neg nc1_3).trans ((if_neg nc1_4).trans ((if_neg nc1_5).trans (rfl))))))]; exact ⟨rfl, rfl, rfl, rfl, rfl⟩)
def penter (M : zI) (n v m : Int32) : zI :=
  let t := tn (M 0 13)
  let M1 := zup (zup (zup (zup M 7 t n) 8 t 0) 9 t v) 10 t m
  zup M1 0 13 (M1 0 13 + 1)
def pparts (k : Int32) : Int32 := if k = 6 then 3 else if k < 9 ∨ k = 12 then 2 else 1
set_option maxRecDepth 20000 in
theorem R_X12_enter {l : Launch} {d : Nat} {D : zD} {b0 : Nat} {g : zG} {f M : zI} {o : Nat} (hW : RW b0 g o) (n v m : Int32) (hO : iv 130 (M 0 13)) : zM l d D b0 mX12_enter [.ref o, .int n, .int v, .int m] g (rv o f M) (zEx none g (rv o f (penter M n v m))) := by
  have hO1 := hO.1
  refine zM.start zmd_X12_enter (Nat.le_of_ble_eq_true rfl) ⟨rfl, rfl, rfl, rfl, trivial⟩ [some (.ref o), some (.int n), some (.int v), some (.int m)] rfl ?_
  refine z_aload0 dX12_enter_0 ?_
  refine z_getRs fl_RX12_31 (by decide) hW.o (hW.r 6 rfl) dX12_enter_1 ?_
  refine z_aload0 dX12_enter_4 ?_
  refine zr_getI fl_RX12_108 hW dX12_enter_5 ?_
  refine z_iload1 dX12_enter_8 ?_
  refine zr_st hW (i := 6) rfl (by decide) (by decide) hO.2 (by omega) dX12_enter_9 ?_
  refine z_aload0 dX12_enter_10 ?_
  refine z_getRs fl_RX12_34 (by decide) hW.o (hW.r 7 rfl) dX12_enter_11 ?_
  refine z_aload0 dX12_enter_14 ?_
  refine zr_getI fl_RX12_108 hW dX12_enter_15 ?_
  refine z_iconst (v := 0) dX12_enter_18 (by decide) ?_
  show zS _ _ _ _ _ _ _ 19 _ _ _ _ _
  refine zr_st hW (i := 7) rfl (by decide) (by decide) hO.2 (by omega) dX12_enter_19 ?_
  refine z_aload0 dX12_enter_20 ?_
  refine z_getRs fl_RX12_37 (by decide) hW.o (hW.r 8 rfl) dX12_enter_21 ?_
  refine z_aload0 dX12_enter_24 ?_
  refine zr_getI fl_RX12_108 hW dX12_enter_25 ?_
  refine z_iload2 dX12_enter_28 ?_
  refine zr_st hW (i := 8) rfl (by decide) (by decide) hO.2 (by omega) dX12_enter_29 ?_
  refine z_aload0 dX12_enter_30 ?_
  refine z_getRs fl_RX12_40 (by decide) hW.o (hW.r 9 rfl) dX12_enter_31 ?_
  refine z_aload0 dX12_enter_34 ?_
  refine zr_getI fl_RX12_108 hW dX12_enter_35 ?_
  refine z_iload3 dX12_enter_38 ?_
  show zS _ _ _ _ _ _ _ 39 _ _ _ _ _
  refine zr_st hW (i := 9) rfl (by decide) (by decide) hO.2 (by omega) dX12_enter_39 ?_
  refine z_aload0 dX12_enter_40 ?_
  refine z_dup dX12_enter_41 ?_
  refine zr_getI fl_RX12_108 hW dX12_enter_42 ?_
  refine z_iconst (v := 1) dX12_enter_45 (by decide) ?_
  refine z_iadd dX12_enter_46 ?_
  refine zr_putI fl_RX12_108 hW dX12_enter_47 ?_
  refine z_ret dX12_enter_50 rfl ?_
  exact ⟨rfl, rfl, rfl, rfl, rfl⟩
set_option maxRecDepth 20000 in
theorem R_X12_parts {l : Launch} {d : Nat} {D : zD} {b0 : Nat} {g : zG} {f M : zI} {o : Nat} (hW : RW b0 g o) (k : Int32) : zM l d D b0 mX12_parts [.int k] g (rv o f M) (zEx (some (.int (pparts k))) g (rv o f M)) := by
  refine zM.start zmd_X12_parts (Nat.le_of_ble_eq_true rfl) ⟨rfl, trivial⟩ [some (.int k)] rfl ?_
  refine z_iload0 dX12_parts_0 ?_
  refine z_bipush (v := 6) dX12_parts_1 (by decide) ?_
  refine z_icmp_ne (tgt := 10) dX12_parts_3 (by decide) (fun c3 => ?_) (fun c3 => ?_)
  · show zS _ _ _ _ _ _ _ 10 _ _ _ _ _
    refine z_iload0 dX12_parts_10 ?_
    refine z_bipush (v := 9) dX12_parts_11 (by decide) ?_
    refine z_icmp_lt (tgt := 22) dX12_parts_13 (by decide) (fun c13 => ?_) (fun c13 => ?_)
    · show zS _ _ _ _ _ _ _ 22 _ _ _ _ _
      refine z_iconst (v := 2) dX12_parts_22 (by decide) ?_
      refine z_goto (tgt := 27) dX12_parts_23 (by decide) ?_
      show zS _ _ _ _ _ _ _ 27 _ _ _ _ _
      refine z_iret dX12_parts_27 rfl ?_
      refine ⟨congrArg (fun z => some (Value.int z)) ?_, rfl, rfl, rfl, rfl⟩
      first | exact (if_pos c3).symm | exact ((if_neg c3).trans (if_pos (Or.inl c13))).symm | exact ((if_neg c3).trans (if_pos (Or.inr c19))).symm | exact ((if_neg c3).trans (if_neg (fun q => q.elim c13 c19))).symm
    · show zS _ _ _ _ _ _ _ 16 _ _ _ _ _
      refine z_iload0 dX12_parts_16 ?_
      refine z_bipush (v := 12) dX12_parts_17 (by decide) ?_
      refine z_icmp_ne (tgt := 26) dX12_parts_19 (by decide) (fun c19 => ?_) (fun c19 => ?_)
      · show zS _ _ _ _ _ _ _ 26 _ _ _ _ _
        refine z_iconst (v := 1) dX12_parts_26 (by decide) ?_
        refine z_iret dX12_parts_27 rfl ?_
        refine ⟨congrArg (fun z => some (Value.int z)) ?_, rfl, rfl, rfl, rfl⟩
        first | exact (if_pos c3).symm | exact ((if_neg c3).trans (if_pos (Or.inl c13))).symm | exact ((if_neg c3).trans (if_pos (Or.inr c19))).symm | exact ((if_neg c3).trans (if_neg (fun q => q.elim c13 c19))).symm
      · show zS _ _ _ _ _ _ _ 22 _ _ _ _ _
        refine z_iconst (v := 2) dX12_parts_22 (by decide) ?_
        refine z_goto (tgt := 27) dX12_parts_23 (by decide) ?_
        show zS _ _ _ _ _ _ _ 27 _ _ _ _ _
        refine z_iret dX12_parts_27 rfl ?_
        refine ⟨congrArg (fun z => some (Value.int z)) ?_, rfl, rfl, rfl, rfl⟩
        first | exact (if_pos c3).symm | exact ((if_neg c3).trans (if_pos (Or.inl c13))).symm | exact ((if_neg c3).trans (if_pos (Or.inr c19))).symm | exact ((if_neg c3).trans (if_neg (fun q => q.elim c13 c19))).symm
  · show zS _ _ _ _ _ _ _ 6 _ _ _ _ _
    refine z_iconst (v := 3) dX12_parts_6 (by decide) ?_
    refine z_goto (tgt := 27) dX12_parts_7 (by decide) ?_
    show zS _ _ _ _ _ _ _ 27 _ _ _ _ _
    refine z_iret dX12_parts_27 rfl ?_
    refine ⟨congrArg (fun z => some (Value.int z)) ?_, rfl, rfl, rfl, rfl⟩
    first | exact (if_pos c3).symm | exact ((if_neg c3).trans (if_pos (Or.inl c13))).symm | exact ((if_neg c3).trans (if_pos (Or.inr c19))).symm | exact ((if_neg c3).trans (if_neg (fun q => q.elim c13 c19))).symm
def pbwN (M : zI) : zI := pmake (prnum M).2 0 (prnum M).1
def pbwV (M : zI) : zI := pmake (patn M) 1 (phere M - 97)
def pbwA (M : zI) : Int32 × zI := preadArg (patn M) (pkindOf (phere M))
def pbw4 (N : zI) (k m : Int32) : zI := zup N 1 (5 * tn (N 0 17) + 4) (if k = 14 then m - 1 else -9)
def pbwE (M : zI) (v m : Int32) : zI :=
  let q := pbwA M
  let N := zup (pmake q.2 (pkindOf (phere M)) q.1) 0 17 (q.2 0 1)
  penter (pbw4 N (pkindOf (phere M)) m) (q.2 0 1) v m
/-- an expression's beginning, behind the blanks -/
def pbw (M : zI) (v m : Int32) : Int32 × zI :=
  if ¬ (phere M < 48 ∨ 57 < phere M) then (1, zup (pbwN M) 0 17 ((prnum M).2 0 1))
  else if ¬ (phere M < 97 ∨ 122 < phere M) ∧ (v >>> ((phere M - 97) &&& 31)) &&& 1 = 1 then (1, zup (pbwV M) 0 17 (M 0 1))
  else if pkindOf (phere M) = -9 ∨ (pkindOf (phere M) = 14 ∧ m = 0) then (1, pfails M)
  else if (pbwA M).2 0 15 = -9 then (0, pbwE M v m) else (0, (pbwA M).2)
def pbegins (M : zI) (v m : Int32) : Int32 × zI := pbw (pskip M) v m
def pbeginsV (M : zI) : Prop := pat M ∧ iv 64990 (M 0 1) ∧ iv 129 (M 0 13)
theorem zup_r {α : Type} {f : Nat → Nat → α} {a k b : Nat} {v : α} (h : b ≠ a) : zup f a k v b = f b := by
  funext c
  exact zup_ne _ _ _ _ (Or.inl h)
theorem prnA_0 : ∀ (k : Nat) (v : Int32) (M : zI) (c : Nat), c ≠ 14 → (prnA k v M).2 0 c = M 0 c := by
  intro k
  induction k with
  | zero => intro v M c h; rfl
  | succ k ih =>
    intro v M c h
    unfold prnA
    split
    · rfl
    · rw [ih _ _ c h]
      exact zup_ne _ _ _ _ (Or.inr h)
theorem pskA_0 : ∀ (k : Nat) (M : zI) (c : Nat), c ≠ 14 → pskA k M 0 c = M 0 c := by
  intro k
  induction k with
  | zero => intro M c h; rfl
  | succ k ih =>
    intro M c h
    unfold pskA
    split
    · rw [ih _ c h]
      exact zup_ne _ _ _ _ (Or.inr h)
    · rfl
theorem pskip_0 {M : zI} {c : Nat} (h : c ≠ 14) : pskip M 0 c = M 0 c := pskA_0 _ _ _ h
theorem ptake_0 {M : zI} {a b : Int32} {c : Nat} (h : c ≠ 14) (h2 : c ≠ 15) : (ptake M a b).2 0 c = M 0 c := by
  unfold ptake
  split
  · show pfails (pskip M) 0 c = M 0 c
    unfold pfails
    rw [zup_ne _ _ _ _ (Or.inr h2)]
    exact pskip_0 h
  · show patn (pskip M) 0 c = M 0 c
    unfold patn
    rw [zup_ne _ _ _ _ (Or.inr h)]
    exact pskip_0 h
theorem preadArg_0 {M : zI} {k : Int32} {c : Nat} (h : c ≠ 14) (h2 : c ≠ 15) : (preadArg M k).2 0 c = M 0 c := by
  unfold preadArg
  repeat' split
  all_goals first | exact ptake_0 h h2 | rfl
theorem pbeginsV.s {M : zI} (h : pbeginsV M) : pat (pskip M) ∧ iv 64990 (pskip M 0 1) ∧ iv 129 (pskip M 0 13) := ⟨h.1.skip, by rw [pskip_0 (by decide)]; exact h.2.1, by rw [pskip_0 (by decide)]; exact h.2.2⟩
theorem pmake_0 {M : zI} {k a : Int32} {c : Nat} (h : c ≠ 1) (h2 : c ≠ 16) : pmake M k a 0 c = M 0 c := by
  unfold pmake pmakeE pmake1
  rw [zup_ne _ _ _ _ (Or.inr h2), zup_r (show (0 : Nat) ≠ 1 by decide), zup_r (show (0 : Nat) ≠ 1 by decide), zup_r (show (0 : Nat) ≠ 1 by decide), zup_r (show (0 : Nat) ≠ 1 by decide), zup_r (show (0 : Nat) ≠ 1 by decide), zup_ne _ _ _ _ (Or.inr h)]
def pbwF (N : zI) (k a v m : Int32) : zI := penter (pbw4 (zup (pmake N k a) 0 17 (N 0 1)) k m) (N 0 1) v m
set_option maxRecDepth 20000 in
theorem Rt_X12_beginsWhole_131 {l : Launch} {d : Nat} {D : zD} {b0 : Nat} {g : zG} {f M : zI} {o : Nat} (hW : RW b0 g o) (v m c k a : Int32) (hN : iv 65000 (M 0 1)) (hO : iv 130 (M 0 13)) (hd : 3 ≤ d) : zS l d D b0 mX12_beginsWhole 0 0 131 [some (.ref o), some (.int v), some (.int m), some (.int c), some (.int k), some (.int a)] [] g (rv o f M) (zq D b0 (zEx (some (.int 0)) g (rv o f (if M 0 15 = -9 then pbwF M k a v m else M)))) := by
  show zS _ _ _ _ _ _ _ 131 _ _ _ _ _
  refine z_aload0 dX12_beginsWhole_131 ?_
  refine zr_getI fl_RX12_85 hW dX12_beginsWhole_132 ?_
  refine z_bipush (v := (-9)) dX12_beginsWhole_135 (by decide) ?_
  refine z_icmp_ne (tgt := 190) dX12_beginsWhole_137 (by decide) (fun c137 => ?_) (fun c137 => ?_)
  · show zS _ _ _ _ _ _ _ 190 _ _ _ _ _
    refine z_iconst (v := 0) dX12_beginsWhole_190 (by decide) ?_
    refine z_iret dX12_beginsWhole_191 rfl ?_
    first
      | (rw [if_neg c137]; exact ⟨rfl, rfl, rfl, rfl, rfl⟩)
      | (rw [if_pos c137]; refine ⟨rfl, rfl, ?_, rfl, rfl⟩; unfold pbwF pbw4; first | (rw [if_pos (by assumption)]; rfl) | (rw [if_neg (by assumption)]; rfl))
  · show zS _ _ _ _ _ _ _ 140 _ _ _ _ _
    refine z_aload0 dX12_beginsWhole_140 ?_
    refine z_aload0 dX12_beginsWhole_141 ?_
    refine z_iload4 dX12_beginsWhole_142 ?_
    refine z_iload5 dX12_beginsWhole_144 ?_
    refine z_callVi zmd_X12_make rfl (by decide) zl_RX12_114 zin_X12_make zsel_X12_make (R_X12_make (d := d - 1) hW _ _ hN) hW.o rfl rfl (by omega) rfl dX12_beginsWhole_146 ?_
    refine zr_putI fl_RX12_117 hW dX12_beginsWhole_149 ?_
    refine z_aload0 dX12_beginsWhole_152 ?_
    refine z_getRs fl_RX12_8 (by decide) hW.o (hW.r 0 rfl) dX12_beginsWhole_153 ?_
    refine z_iconst (v := 5) dX12_beginsWhole_156 (by decide) ?_
    refine z_aload0 dX12_beginsWhole_157 ?_
    have hN3 := hN.1
    refine zr_getI fl_RX12_117 hW dX12_beginsWhole_158 ?_
    show zS _ _ _ _ _ _ _ 161 _ _ _ _ _
    refine z_imul dX12_beginsWhole_161 ?_
    refine z_iconst (v := 4) dX12_beginsWhole_162 (by decide) ?_
    refine z_iadd dX12_beginsWhole_163 ?_
    refine z_iload4 dX12_beginsWhole_164 ?_
    refine z_bipush (v := 14) dX12_beginsWhole_166 (by decide) ?_
    refine z_icmp_ne (tgt := 177) dX12_beginsWhole_168 (by decide) (fun c168 => ?_) (fun c168 => ?_)
    · show zS _ _ _ _ _ _ _ 177 _ _ _ _ _
      refine z_bipush (v := (-9)) dX12_beginsWhole_177 (by decide) ?_
      refine zr_st hW (i := 0) rfl (by decide) (by decide) (ixA (ixM (ixC 5) hN.2) (ixC 4)) (by omega) dX12_beginsWhole_179 ?_
      refine z_aload0 dX12_beginsWhole_180 ?_
      refine z_aload0 dX12_beginsWhole_181 ?_
      refine zr_getI fl_RX12_117 hW dX12_beginsWhole_182 ?_
      refine z_iload1 dX12_beginsWhole_185 ?_
      refine z_iload2 dX12_beginsWhole_186 ?_
      refine z_callVv zmd_X12_enter rfl (by decide) zl_RX12_127 zin_X12_enter zsel_X12_enter (R_X12_enter (d := d - 1) hW _ _ _ (by rw [zup_r (show (0 : Nat) ≠ 1 by decide), zup_ne _ _ _ _ (Or.inr (show (13 : Nat) ≠ 17 by decide)), pmake_0 (by decide) (by decide)]; exact hO)) hW.o rfl rfl (by omega) rfl dX12_beginsWhole_187 ?_
      refine z_iconst (v := 0) dX12_beginsWhole_190 (by decide) ?_
      refine z_iret dX12_beginsWhole_191 rfl ?_
      first
        | (rw [if_neg c137]; exact ⟨rfl, rfl, rfl, rfl, rfl⟩)
        | (rw [if_pos c137]; refine ⟨rfl, rfl, ?_, rfl, rfl⟩; unfold pbwF pbw4; first | (rw [if_pos (by assumption)]; rfl) | (rw [if_neg (by assumption)]; rfl))
    · show zS _ _ _ _ _ _ _ 171 _ _ _ _ _
      refine z_iload2 dX12_beginsWhole_171 ?_
      refine z_iconst (v := 1) dX12_beginsWhole_172 (by decide) ?_
      refine z_isub dX12_beginsWhole_173 ?_
      refine z_goto (tgt := 179) dX12_beginsWhole_174 (by decide) ?_
      show zS _ _ _ _ _ _ _ 179 _ _ _ _ _
      refine zr_st hW (i := 0) rfl (by decide) (by decide) (ixA (ixM (ixC 5) hN.2) (ixC 4)) (by omega) dX12_beginsWhole_179 ?_
      refine z_aload0 dX12_beginsWhole_180 ?_
      refine z_aload0 dX12_beginsWhole_181 ?_
      refine zr_getI fl_RX12_117 hW dX12_beginsWhole_182 ?_
      refine z_iload1 dX12_beginsWhole_185 ?_
      refine z_iload2 dX12_beginsWhole_186 ?_
      refine z_callVv zmd_X12_enter rfl (by decide) zl_RX12_127 zin_X12_enter zsel_X12_enter (R_X12_enter (d := d - 1) hW _ _ _ (by rw [zup_r (show (0 : Nat) ≠ 1 by decide), zup_ne _ _ _ _ (Or.inr (show (13 : Nat) ≠ 17 by decide)), pmake_0 (by decide) (by decide)]; exact hO)) hW.o rfl rfl (by omega) rfl dX12_beginsWhole_187 ?_
      refine z_iconst (v := 0) dX12_beginsWhole_190 (by decide) ?_
      refine z_iret dX12_beginsWhole_191 rfl ?_
      first
        | (rw [if_neg c137]; exact ⟨rfl, rfl, rfl, rfl, rfl⟩)
        | (rw [if_pos c137]; refine ⟨rfl, rfl, ?_, rfl, rfl⟩; unfold pbwF pbw4; first | (rw [if_pos (by assumption)]; rfl) | (rw [if_neg (by assumption)]; rfl))
def pbwG (N : zI) (k a v m : Int32) : Int32 × zI := (0, if N 0 15 = -9 then pbwF N k a v m else N)
theorem pbw_1 {M : zI} {v m : Int32} (h1 : ¬ ¬ (phere M < 48 ∨ 57 < phere M)) (h2 : ¬ (¬ (phere M < 97 ∨ 122 < phere M) ∧ (v >>> ((phere M - 97) &&& 31)) &&& 1 = 1)) (h3 : ¬ (pkindOf (phere M) = -9 ∨ (pkindOf (phere M) = 14 ∧ m = 0))) : pbw M v m = pbwG (pbwA M).2 (pkindOf (phere M)) (pbwA M).1 v m := by
  unfold pbw pbwG
  rw [if_neg h1, if_neg h2, if_neg h3]
  by_cases h : (pbwA M).2 0 15 = -9
  · rw [if_pos h, if_pos h]; rfl
  · rw [if_neg h, if_neg h]
theorem zB_no {p : Prop} [Decidable p] (h : ¬ p) : zB p = 0 := if_neg h
set_option maxRecDepth 20000 in
theorem Rt_X12_beginsWhole_4 {l : Launch} {d : Nat} {D : zD} {b0 : Nat} {g : zG} {f M : zI} {o : Nat} (hW : RW b0 g o) (v m : Int32) (hp : pat M) (hN : iv 64990 (M 0 1)) (hO : iv 129 (M 0 13)) (hd : 3 ≤ d) : zS l d D b0 mX12_beginsWhole 0 0 4 [some (.ref o), some (.int v), some (.int m), none, none, none] [] g (rv o f M) (zq D b0 (zEx (some (.int (pbw M v m).1)) g (rv o f (pbw M v m).2))) := by
  show zS _ _ _ _ _ _ _ 4 _ _ _ _ _
  refine z_aload0 dX12_beginsWhole_4 ?_
  refine z_callVi zmd_X12_here rfl (by decide) zl_RX12_97 zin_X12_here zsel_X12_here (R_X12_here (d := d - 1) hW hp) hW.o rfl rfl (by omega) rfl dX12_beginsWhole_5 ?_
  refine z_istore3 dX12_beginsWhole_8 ?_
  refine z_iload3 dX12_beginsWhole_9 ?_
  refine z_bipush (v := 48) dX12_beginsWhole_10 (by decide) ?_
  refine z_bipush (v := 57) dX12_beginsWhole_12 (by decide) ?_
  refine z_callSi zmd_X12_isIn zl_RX12_74 zst_X12_isIn (R_X12_isIn (d := d - 1) hW _ _ _) rfl rfl (by omega) rfl dX12_beginsWhole_14 ?_
  refine z_if_eq (tgt := 35) dX12_beginsWhole_17 (by decide) (fun c17 => ?_) (fun c17 => ?_)
  · show zS _ _ _ _ _ _ _ 35 _ _ _ _ _
    refine z_iload3 dX12_beginsWhole_35 ?_
    refine z_bipush (v := 97) dX12_beginsWhole_36 (by decide) ?_
    refine z_bipush (v := 122) dX12_beginsWhole_38 (by decide) ?_
    refine z_callSi zmd_X12_isIn zl_RX12_74 zst_X12_isIn (R_X12_isIn (d := d - 1) hW _ _ _) rfl rfl (by omega) rfl dX12_beginsWhole_40 ?_
    refine z_if_eq (tgt := 83) dX12_beginsWhole_43 (by decide) (fun c43 => ?_) (fun c43 => ?_)
    · show zS _ _ _ _ _ _ _ 83 _ _ _ _ _
      have hno1 : ¬ ¬ (phere M < 48 ∨ 57 < phere M) := fun q => q (zBno c17)
      have hno2 : ¬ (¬ (phere M < 97 ∨ 122 < phere M) ∧ (v >>> ((phere M - 97) &&& 31)) &&& 1 = 1) := by
        first | exact fun q => c55 q.2 | exact fun q => q.1 (zBno c43)
      refine z_iload3 dX12_beginsWhole_83 ?_
      refine z_callSi zmd_X12_kindOf zl_RX12_120 zst_X12_kindOf (R_X12_kindOf (d := d - 1) hW _) rfl rfl (by omega) rfl dX12_beginsWhole_84 ?_
      refine z_istore4 dX12_beginsWhole_87 ?_
      refine z_iload4 dX12_beginsWhole_89 ?_
      refine z_bipush (v := (-9)) dX12_beginsWhole_91 (by decide) ?_
      refine z_icmp_eq (tgt := 107) dX12_beginsWhole_93 (by decide) (fun c93 => ?_) (fun c93 => ?_)
      · show zS _ _ _ _ _ _ _ 107 _ _ _ _ _
        refine z_aload0 dX12_beginsWhole_107 ?_
        refine z_callVv zmd_X12_fails rfl (by decide) zl_RX12_101 zin_X12_fails zsel_X12_fails (R_X12_fails (d := d - 1) hW ) hW.o rfl rfl (by omega) rfl dX12_beginsWhole_108 ?_
        refine z_iconst (v := 1) dX12_beginsWhole_111 (by decide) ?_
        refine z_iret dX12_beginsWhole_112 rfl ?_
        rw [show pbw M v m = (1, pfails M) from (if_neg hno1).trans ((if_neg hno2).trans (if_pos (by first | exact Or.inl c93 | exact Or.inr ⟨c100, c104⟩)))]
        exact ⟨rfl, rfl, rfl, rfl, rfl⟩
      · show zS _ _ _ _ _ _ _ 96 _ _ _ _ _
        refine z_iload4 dX12_beginsWhole_96 ?_
        refine z_bipush (v := 14) dX12_beginsWhole_98 (by decide) ?_
        refine z_icmp_ne (tgt := 113) dX12_beginsWhole_100 (by decide) (fun c100 => ?_) (fun c100 => ?_)
        · show zS _ _ _ _ _ _ _ 113 _ _ _ _ _
          have hno3 : ¬ (pkindOf (phere M) = -9 ∨ (pkindOf (phere M) = 14 ∧ m = 0)) := by
            first | exact fun q => q.elim c93 (fun q => c100 q.1) | exact fun q => q.elim c93 (fun q => c104 q.2)
          have hlt : M 0 14 < M 0 8 := by
            rcases Decidable.em (M 0 14 < M 0 8) with q | q
            · exact q
            · exact absurd (Or.inl (by rw [phere_0 q]; rfl)) hno3
          have hp3 := hp.next hlt
          rw [pbw_1 hno1 hno2 hno3]
          refine z_aload0 dX12_beginsWhole_113 ?_
          refine z_dup dX12_beginsWhole_114 ?_
          refine zr_getI fl_RX12_82 hW dX12_beginsWhole_115 ?_
          refine z_iconst (v := 1) dX12_beginsWhole_118 (by decide) ?_
          refine z_iadd dX12_beginsWhole_119 ?_
          refine zr_putI fl_RX12_82 hW dX12_beginsWhole_120 ?_
          refine z_aload0 dX12_beginsWhole_123 ?_
          refine z_iload4 dX12_beginsWhole_124 ?_
          refine z_callVi zmd_X12_readArgument rfl (by decide) zl_RX12_124 zin_X12_readArgument zsel_X12_readArgument (R_X12_readArgument (d := d - 1) hW _ hp3 (by omega)) hW.o rfl rfl (by omega) rfl dX12_beginsWhole_126 ?_
          refine z_istore5 dX12_beginsWhole_129 ?_
          have hN2 : iv 65000 ((pbwA M).2 0 1) := by rw [show (pbwA M).2 0 1 = M 0 1 from (preadArg_0 (by decide) (by decide)).trans (zup_ne _ _ _ _ (Or.inr (by decide)))]; exact hN.mono (by decide)
          have hO2 : iv 130 ((pbwA M).2 0 13) := by rw [show (pbwA M).2 0 13 = M 0 13 from (preadArg_0 (by decide) (by decide)).trans (zup_ne _ _ _ _ (Or.inr (by decide)))]; exact hO.mono (by decide)
          exact Rt_X12_beginsWhole_131 (M := (pbwA M).2) hW v m _ _ _ hN2 hO2 hd
        · show zS _ _ _ _ _ _ _ 103 _ _ _ _ _
          refine z_iload2 dX12_beginsWhole_103 ?_
          refine z_if_ne (tgt := 113) dX12_beginsWhole_104 (by decide) (fun c104 => ?_) (fun c104 => ?_)
          · show zS _ _ _ _ _ _ _ 113 _ _ _ _ _
            have hno3 : ¬ (pkindOf (phere M) = -9 ∨ (pkindOf (phere M) = 14 ∧ m = 0)) := by
              first | exact fun q => q.elim c93 (fun q => c100 q.1) | exact fun q => q.elim c93 (fun q => c104 q.2)
            have hlt : M 0 14 < M 0 8 := by
              rcases Decidable.em (M 0 14 < M 0 8) with q | q
              · exact q
              · exact absurd (Or.inl (by rw [phere_0 q]; rfl)) hno3
            have hp3 := hp.next hlt
            rw [pbw_1 hno1 hno2 hno3]
            refine z_aload0 dX12_beginsWhole_113 ?_
            refine z_dup dX12_beginsWhole_114 ?_
            refine zr_getI fl_RX12_82 hW dX12_beginsWhole_115 ?_
            refine z_iconst (v := 1) dX12_beginsWhole_118 (by decide) ?_
            refine z_iadd dX12_beginsWhole_119 ?_
            refine zr_putI fl_RX12_82 hW dX12_beginsWhole_120 ?_
            refine z_aload0 dX12_beginsWhole_123 ?_
            refine z_iload4 dX12_beginsWhole_124 ?_
            refine z_callVi zmd_X12_readArgument rfl (by decide) zl_RX12_124 zin_X12_readArgument zsel_X12_readArgument (R_X12_readArgument (d := d - 1) hW _ hp3 (by omega)) hW.o rfl rfl (by omega) rfl dX12_beginsWhole_126 ?_
            refine z_istore5 dX12_beginsWhole_129 ?_
            have hN2 : iv 65000 ((pbwA M).2 0 1) := by rw [show (pbwA M).2 0 1 = M 0 1 from (preadArg_0 (by decide) (by decide)).trans (zup_ne _ _ _ _ (Or.inr (by decide)))]; exact hN.mono (by decide)
            have hO2 : iv 130 ((pbwA M).2 0 13) := by rw [show (pbwA M).2 0 13 = M 0 13 from (preadArg_0 (by decide) (by decide)).trans (zup_ne _ _ _ _ (Or.inr (by decide)))]; exact hO.mono (by decide)
            exact Rt_X12_beginsWhole_131 (M := (pbwA M).2) hW v m _ _ _ hN2 hO2 hd
          · show zS _ _ _ _ _ _ _ 107 _ _ _ _ _
            refine z_aload0 dX12_beginsWhole_107 ?_
            refine z_callVv zmd_X12_fails rfl (by decide) zl_RX12_101 zin_X12_fails zsel_X12_fails (R_X12_fails (d := d - 1) hW ) hW.o rfl rfl (by omega) rfl dX12_beginsWhole_108 ?_
            refine z_iconst (v := 1) dX12_beginsWhole_111 (by decide) ?_
            refine z_iret dX12_beginsWhole_112 rfl ?_
            rw [show pbw M v m = (1, pfails M) from (if_neg hno1).trans ((if_neg hno2).trans (if_pos (by first | exact Or.inl c93 | exact Or.inr ⟨c100, c104⟩)))]
            exact ⟨rfl, rfl, rfl, rfl, rfl⟩
    · show zS _ _ _ _ _ _ _ 46 _ _ _ _ _
      refine z_iload1 dX12_beginsWhole_46 ?_
      refine z_iload3 dX12_beginsWhole_47 ?_
      refine z_bipush (v := 97) dX12_beginsWhole_48 (by decide) ?_
      refine z_isub dX12_beginsWhole_50 ?_
      refine z_ishr dX12_beginsWhole_51 ?_
      refine z_iconst (v := 1) dX12_beginsWhole_52 (by decide) ?_
      refine z_iand dX12_beginsWhole_53 ?_
      refine z_iconst (v := 1) dX12_beginsWhole_54 (by decide) ?_
      refine z_icmp_ne (tgt := 83) dX12_beginsWhole_55 (by decide) (fun c55 => ?_) (fun c55 => ?_)
      · show zS _ _ _ _ _ _ _ 83 _ _ _ _ _
        have hno1 : ¬ ¬ (phere M < 48 ∨ 57 < phere M) := fun q => q (zBno c17)
        have hno2 : ¬ (¬ (phere M < 97 ∨ 122 < phere M) ∧ (v >>> ((phere M - 97) &&& 31)) &&& 1 = 1) := by
          first | exact fun q => c55 q.2 | exact fun q => q.1 (zBno c43)
        refine z_iload3 dX12_beginsWhole_83 ?_
        refine z_callSi zmd_X12_kindOf zl_RX12_120 zst_X12_kindOf (R_X12_kindOf (d := d - 1) hW _) rfl rfl (by omega) rfl dX12_beginsWhole_84 ?_
        refine z_istore4 dX12_beginsWhole_87 ?_
        refine z_iload4 dX12_beginsWhole_89 ?_
        refine z_bipush (v := (-9)) dX12_beginsWhole_91 (by decide) ?_
        refine z_icmp_eq (tgt := 107) dX12_beginsWhole_93 (by decide) (fun c93 => ?_) (fun c93 => ?_)
        · show zS _ _ _ _ _ _ _ 107 _ _ _ _ _
          refine z_aload0 dX12_beginsWhole_107 ?_
          refine z_callVv zmd_X12_fails rfl (by decide) zl_RX12_101 zin_X12_fails zsel_X12_fails (R_X12_fails (d := d - 1) hW ) hW.o rfl rfl (by omega) rfl dX12_beginsWhole_108 ?_
          refine z_iconst (v := 1) dX12_beginsWhole_111 (by decide) ?_
          refine z_iret dX12_beginsWhole_112 rfl ?_
          rw [show pbw M v m = (1, pfails M) from (if_neg hno1).trans ((if_neg hno2).trans (if_pos (by first | exact Or.inl c93 | exact Or.inr ⟨c100, c104⟩)))]
          exact ⟨rfl, rfl, rfl, rfl, rfl⟩
        · show zS _ _ _ _ _ _ _ 96 _ _ _ _ _
          refine z_iload4 dX12_beginsWhole_96 ?_
          refine z_bipush (v := 14) dX12_beginsWhole_98 (by decide) ?_
          refine z_icmp_ne (tgt := 113) dX12_beginsWhole_100 (by decide) (fun c100 => ?_) (fun c100 => ?_)
          · show zS _ _ _ _ _ _ _ 113 _ _ _ _ _
            have hno3 : ¬ (pkindOf (phere M) = -9 ∨ (pkindOf (phere M) = 14 ∧ m = 0)) := by
              first | exact fun q => q.elim c93 (fun q => c100 q.1) | exact fun q => q.elim c93 (fun q => c104 q.2)
            have hlt : M 0 14 < M 0 8 := by
              rcases Decidable.em (M 0 14 < M 0 8) with q | q
              · exact q
              · exact absurd (Or.inl (by rw [phere_0 q]; rfl)) hno3
            have hp3 := hp.next hlt
            rw [pbw_1 hno1 hno2 hno3]
            refine z_aload0 dX12_beginsWhole_113 ?_
            refine z_dup dX12_beginsWhole_114 ?_
            refine zr_getI fl_RX12_82 hW dX12_beginsWhole_115 ?_
            refine z_iconst (v := 1) dX12_beginsWhole_118 (by decide) ?_
            refine z_iadd dX12_beginsWhole_119 ?_
            refine zr_putI fl_RX12_82 hW dX12_beginsWhole_120 ?_
            refine z_aload0 dX12_beginsWhole_123 ?_
            refine z_iload4 dX12_beginsWhole_124 ?_
            refine z_callVi zmd_X12_readArgument rfl (by decide) zl_RX12_124 zin_X12_readArgument zsel_X12_readArgument (R_X12_readArgument (d := d - 1) hW _ hp3 (by omega)) hW.o rfl rfl (by omega) rfl dX12_beginsWhole_126 ?_
            refine z_istore5 dX12_beginsWhole_129 ?_
            have hN2 : iv 65000 ((pbwA M).2 0 1) := by rw [show (pbwA M).2 0 1 = M 0 1 from (preadArg_0 (by decide) (by decide)).trans (zup_ne _ _ _ _ (Or.inr (by decide)))]; exact hN.mono (by decide)
            have hO2 : iv 130 ((pbwA M).2 0 13) := by rw [show (pbwA M).2 0 13 = M 0 13 from (preadArg_0 (by decide) (by decide)).trans (zup_ne _ _ _ _ (Or.inr (by decide)))]; exact hO.mono (by decide)
            exact Rt_X12_beginsWhole_131 (M := (pbwA M).2) hW v m _ _ _ hN2 hO2 hd
          · show zS _ _ _ _ _ _ _ 103 _ _ _ _ _
            refine z_iload2 dX12_beginsWhole_103 ?_
            refine z_if_ne (tgt := 113) dX12_beginsWhole_104 (by decide) (fun c104 => ?_) (fun c104 => ?_)
            · show zS _ _ _ _ _ _ _ 113 _ _ _ _ _
              have hno3 : ¬ (pkindOf (phere M) = -9 ∨ (pkindOf (phere M) = 14 ∧ m = 0)) := by
                first | exact fun q => q.elim c93 (fun q => c100 q.1) | exact fun q => q.elim c93 (fun q => c104 q.2)
              have hlt : M 0 14 < M 0 8 := by
                rcases Decidable.em (M 0 14 < M 0 8) with q | q
                · exact q
                · exact absurd (Or.inl (by rw [phere_0 q]; rfl)) hno3
              have hp3 := hp.next hlt
              rw [pbw_1 hno1 hno2 hno3]
              refine z_aload0 dX12_beginsWhole_113 ?_
              refine z_dup dX12_beginsWhole_114 ?_
              refine zr_getI fl_RX12_82 hW dX12_beginsWhole_115 ?_
              refine z_iconst (v := 1) dX12_beginsWhole_118 (by decide) ?_
              refine z_iadd dX12_beginsWhole_119 ?_
              refine zr_putI fl_RX12_82 hW dX12_beginsWhole_120 ?_
              refine z_aload0 dX12_beginsWhole_123 ?_
              refine z_iload4 dX12_beginsWhole_124 ?_
              refine z_callVi zmd_X12_readArgument rfl (by decide) zl_RX12_124 zin_X12_readArgument zsel_X12_readArgument (R_X12_readArgument (d := d - 1) hW _ hp3 (by omega)) hW.o rfl rfl (by omega) rfl dX12_beginsWhole_126 ?_
              refine z_istore5 dX12_beginsWhole_129 ?_
              have hN2 : iv 65000 ((pbwA M).2 0 1) := by rw [show (pbwA M).2 0 1 = M 0 1 from (preadArg_0 (by decide) (by decide)).trans (zup_ne _ _ _ _ (Or.inr (by decide)))]; exact hN.mono (by decide)
              have hO2 : iv 130 ((pbwA M).2 0 13) := by rw [show (pbwA M).2 0 13 = M 0 13 from (preadArg_0 (by decide) (by decide)).trans (zup_ne _ _ _ _ (Or.inr (by decide)))]; exact hO.mono (by decide)
              exact Rt_X12_beginsWhole_131 (M := (pbwA M).2) hW v m _ _ _ hN2 hO2 hd
            · show zS _ _ _ _ _ _ _ 107 _ _ _ _ _
              refine z_aload0 dX12_beginsWhole_107 ?_
              refine z_callVv zmd_X12_fails rfl (by decide) zl_RX12_101 zin_X12_fails zsel_X12_fails (R_X12_fails (d := d - 1) hW ) hW.o rfl rfl (by omega) rfl dX12_beginsWhole_108 ?_
              refine z_iconst (v := 1) dX12_beginsWhole_111 (by decide) ?_
              refine z_iret dX12_beginsWhole_112 rfl ?_
              rw [show pbw M v m = (1, pfails M) from (if_neg hno1).trans ((if_neg hno2).trans (if_pos (by first | exact Or.inl c93 | exact Or.inr ⟨c100, c104⟩)))]
              exact ⟨rfl, rfl, rfl, rfl, rfl⟩
      · show zS _ _ _ _ _ _ _ 58 _ _ _ _ _
        refine z_aload0 dX12_beginsWhole_58 ?_
        refine z_dup dX12_beginsWhole_59 ?_
        refine zr_getI fl_RX12_82 hW dX12_beginsWhole_60 ?_
        refine z_iconst (v := 1) dX12_beginsWhole_63 (by decide) ?_
        refine z_iadd dX12_beginsWhole_64 ?_
        refine zr_putI fl_RX12_82 hW dX12_beginsWhole_65 ?_
        refine z_aload0 dX12_beginsWhole_68 ?_
        refine z_aload0 dX12_beginsWhole_69 ?_
        refine z_iconst (v := 1) dX12_beginsWhole_70 (by decide) ?_
        refine z_iload3 dX12_beginsWhole_71 ?_
        refine z_bipush (v := 97) dX12_beginsWhole_72 (by decide) ?_
        show zS _ _ _ _ _ _ _ 74 _ _ _ _ _
        refine z_isub dX12_beginsWhole_74 ?_
        refine z_callVi zmd_X12_make rfl (by decide) zl_RX12_114 zin_X12_make zsel_X12_make (R_X12_make (d := d - 1) hW _ _ (hN.mono (by decide))) hW.o rfl rfl (by omega) rfl dX12_beginsWhole_75 ?_
        refine zr_putI fl_RX12_117 hW dX12_beginsWhole_78 ?_
        refine z_iconst (v := 1) dX12_beginsWhole_81 (by decide) ?_
        refine z_iret dX12_beginsWhole_82 rfl ?_
        rw [show pbw M v m = (1, zup (pbwV M) 0 17 (M 0 1)) from (if_neg (fun q => q (zBno c17))).trans (if_pos ⟨zByes c43, c55⟩)]
        exact ⟨rfl, rfl, rfl, rfl, rfl⟩
  · show zS _ _ _ _ _ _ _ 20 _ _ _ _ _
    refine z_aload0 dX12_beginsWhole_20 ?_
    refine z_aload0 dX12_beginsWhole_21 ?_
    refine z_iconst (v := 0) dX12_beginsWhole_22 (by decide) ?_
    refine z_aload0 dX12_beginsWhole_23 ?_
    refine z_callVi zmd_X12_readNumber rfl (by decide) zl_RX12_111 zin_X12_readNumber zsel_X12_readNumber (R_X12_readNumber (d := d - 1) hW hp (by omega)) hW.o rfl rfl (by omega) rfl dX12_beginsWhole_24 ?_
    refine z_callVi zmd_X12_make rfl (by decide) zl_RX12_114 zin_X12_make zsel_X12_make (R_X12_make (d := d - 1) hW _ _ (by rw [show (prnum M).2 0 1 = M 0 1 from prnA_0 _ _ _ _ (by decide)]; exact hN.mono (by decide))) hW.o rfl rfl (by omega) rfl dX12_beginsWhole_27 ?_
    refine zr_putI fl_RX12_117 hW dX12_beginsWhole_30 ?_
    refine z_iconst (v := 1) dX12_beginsWhole_33 (by decide) ?_
    refine z_iret dX12_beginsWhole_34 rfl ?_
    rw [show pbw M v m = (1, zup (pbwN M) 0 17 ((prnum M).2 0 1)) from if_pos (zByes c17)]
    exact ⟨rfl, rfl, rfl, rfl, rfl⟩
set_option maxRecDepth 20000 in
theorem R_X12_beginsWhole {l : Launch} {d : Nat} {D : zD} {b0 : Nat} {g : zG} {f M : zI} {o : Nat} (hW : RW b0 g o) (v m : Int32) (hV : pbeginsV M) (hd : 3 ≤ d) : zM l d D b0 mX12_beginsWhole [.ref o, .int v, .int m] g (rv o f M) (zEx (some (.int ((pbegins M v m).1))) g (rv o f ((pbegins M v m).2))) := by
  obtain ⟨hp, hN, hO⟩ := hV.s
  refine zM.start zmd_X12_beginsWhole (Nat.le_of_ble_eq_true rfl) ⟨rfl, rfl, rfl, trivial⟩ [some (.ref o), some (.int v), some (.int m), none, none, none] rfl ?_
  refine z_aload0 dX12_beginsWhole_0 ?_
  refine z_callVv zmd_X12_skip rfl (by decide) zl_RX12_94 zin_X12_skip zsel_X12_skip (R_X12_skip (d := d - 1) hW hV.1) hW.o rfl rfl (by omega) rfl dX12_beginsWhole_1 ?_
  exact Rt_X12_beginsWhole_4 (M := pskip M) hW v m hp hN hO hd
