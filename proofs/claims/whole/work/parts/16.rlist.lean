/-! The reference's listing, in literal form. -/
def psignOf (k : Int32) : Int32 := if k = 2 then 43 else if k = 3 then 45 else if k = 4 then 42 else if k = 5 then 60 else if k = 6 then 63 else if k = 7 then 59 else if k = 8 then 61 else if k = 9 then 33 else if k = 10 then 94 else if k = 11 then 126 else if k = 12 then 37 else if k = 13 then 38 else if k = 14 then 64 else 123
def pput (q : Nat × zI) (x : Int32) : Nat × zI := (q.1 + 1, zup q.2 13 q.1 x)
def pputc (c : Prop) [Decidable c] (q : Nat × zI) (x : Int32) : Nat × zI := if c then pput q x else q
theorem pputc_t {c : Prop} [Decidable c] {q : Nat × zI} {x : Int32} (h : c) : pputc c q x = pput q x := if_pos h
theorem pputc_f {c : Prop} [Decidable c] {q : Nat × zI} {x : Int32} (h : ¬ c) : pputc c q x = q := if_neg h
def playNum (M : zI) (n : Nat) (v b : Int32) : Nat × zI := pput (pputc (9 < v) (pputc (99 < v) (pputc (¬ b = 0) (n, M) 32) (48 + v / 100)) (48 + (v / 10 - v / 10 / 10 * 10))) (48 + (v - v / 10 * 10))
def pnamed (M : zI) (x : Int32) : Int32 := if pkind M x = 8 then 97 + parg M x else if pkind M x = 9 then -9 else if pkind M x = 10 then 65 + parg M x else if pkind M x = 11 then 65 + parg M x else if pkind M x = 12 then -9 else if pkind M x = 13 then 48 + parg M x else -9
def plp1 (q : Nat × zI) (x : Int32) : Nat × zI := (q.1 + 1, zup q.2 12 q.1 x)
def plpC1 (x : Int32) (k : Nat) (q : Nat × zI) : Nat × zI := (q.1 + 3, zup (zup (zup q.2 12 q.1 (ppart q.2 (pclause q.2 x (nI k)) 1)) 12 (q.1 + 1) (-(97 + parg q.2 (pclause q.2 x (nI k))))) 12 (q.1 + 2) (if (nI k : Int32) = 6 then -58 else -(65 + nI k)))
def plpC (x : Int32) : Nat → Nat × zI → Nat × zI
  | 0, q => q
  | k + 1, q => plpC x k (if pclause q.2 x (nI k) = -9 then q else plpC1 x k q)
def plpP (x : Int32) : Nat → Nat × zI → Nat × zI
  | 0, q => q
  | k + 1, q => plpP x k (plp1 q (ppart q.2 x (nI (k + 1))))
def playParts (M : zI) (n : Nat) (x : Int32) : Nat × zI :=
  if pkind M x = 15 then plp1 (plpC x 7 (plp1 (n, M) (-125))) (ppart (plpC x 7 (plp1 (n, M) (-125))).2 x 1)
  else plpP x (tn (pparts (pkind M x))) (n, M)
/-- the clauses of a handler: each found is a row of the tree -/
def plpV (M : zI) (x : Int32) : Prop := iv 65000 x ∧ pclOk M x ∧ ∀ w, ¬ pclause M x w = -9 → iv 65000 (pclause M x w)
set_option maxRecDepth 20000 in
theorem R_X12_signOf {l : Launch} {d : Nat} {D : zD} {b0 : Nat} {g : zG} {f M : zI} {o : Nat} (hW : RW b0 g o) (k : Int32) : zM l d D b0 mX12_signOf [.int k] g (rv o f M) (zEx (some (.int (psignOf k))) g (rv o f M)) := by
  refine zM.start zmd_X12_signOf (Nat.le_of_ble_eq_true rfl) ⟨rfl, trivial⟩ [some (.int k)] rfl ?_
  refine z_iload0 dX12_signOf_0 ?_
  refine z_tab dX12_signOf_1 (by decide +kernel) (by decide +kernel) ?_
  refine ⟨fun c1_0 => ?_, fun nc1_0 => ?_⟩
  · show zS _ _ _ _ _ _ _ 68 _ _ _ _ _
    refine z_bipush (v := 43) dX12_signOf_68 (by decide) ?_
    refine z_iret dX12_signOf_70 rfl ?_
    refine ⟨congrArg (fun z => some (Value.int z)) ?_, rfl, rfl, rfl, rfl⟩
    first | (rw [‹k = _›]; rfl) | exact ((if_neg nc1_0).trans ((if_neg nc1_1).trans ((if_neg nc1_2).trans ((if_neg nc1_3).trans ((if_neg nc1_4).trans ((if_neg nc1_5).trans ((if_neg nc1_6).trans ((if_neg nc1_7).trans ((if_neg nc1_8).trans ((if_neg nc1_9).trans ((if_neg nc1_10).trans ((if_neg nc1_11).trans ((if_neg nc1_12).trans (rfl)))))))))))))).symm
  refine ⟨fun c1_1 => ?_, fun nc1_1 => ?_⟩
  · show zS _ _ _ _ _ _ _ 71 _ _ _ _ _
    refine z_bipush (v := 45) dX12_signOf_71 (by decide) ?_
    refine z_iret dX12_signOf_73 rfl ?_
    refine ⟨congrArg (fun z => some (Value.int z)) ?_, rfl, rfl, rfl, rfl⟩
    first | (rw [‹k = _›]; rfl) | exact ((if_neg nc1_0).trans ((if_neg nc1_1).trans ((if_neg nc1_2).trans ((if_neg nc1_3).trans ((if_neg nc1_4).trans ((if_neg nc1_5).trans ((if_neg nc1_6).trans ((if_neg nc1_7).trans ((if_neg nc1_8).trans ((if_neg nc1_9).trans ((if_neg nc1_10).trans ((if_neg nc1_11).trans ((if_neg nc1_12).trans (rfl)))))))))))))).symm
  refine ⟨fun c1_2 => ?_, fun nc1_2 => ?_⟩
  · show zS _ _ _ _ _ _ _ 74 _ _ _ _ _
    refine z_bipush (v := 42) dX12_signOf_74 (by decide) ?_
    refine z_iret dX12_signOf_76 rfl ?_
    refine ⟨congrArg (fun z => some (Value.int z)) ?_, rfl, rfl, rfl, rfl⟩
    first | (rw [‹k = _›]; rfl) | exact ((if_neg nc1_0).trans ((if_neg nc1_1).trans ((if_neg nc1_2).trans ((if_neg nc1_3).trans ((if_neg nc1_4).trans ((if_neg nc1_5).trans ((if_neg nc1_6).trans ((if_neg nc1_7).trans ((if_neg nc1_8).trans ((if_neg nc1_9).trans ((if_neg nc1_10).trans ((if_neg nc1_11).trans ((if_neg nc1_12).trans (rfl)))))))))))))).symm
  refine ⟨fun c1_3 => ?_, fun nc1_3 => ?_⟩
  · show zS _ _ _ _ _ _ _ 77 _ _ _ _ _
    refine z_bipush (v := 60) dX12_signOf_77 (by decide) ?_
    refine z_iret dX12_signOf_79 rfl ?_
    refine ⟨congrArg (fun z => some (Value.int z)) ?_, rfl, rfl, rfl, rfl⟩
    first | (rw [‹k = _›]; rfl) | exact ((if_neg nc1_0).trans ((if_neg nc1_1).trans ((if_neg nc1_2).trans ((if_neg nc1_3).trans ((if_neg nc1_4).trans ((if_neg nc1_5).trans ((if_neg nc1_6).trans ((if_neg nc1_7).trans ((if_neg nc1_8).trans ((if_neg nc1_9).trans ((if_neg nc1_10).trans ((if_neg nc1_11).trans ((if_neg nc1_12).trans (rfl)))))))))))))).symm
  refine ⟨fun c1_4 => ?_, fun nc1_4 => ?_⟩
  · show zS _ _ _ _ _ _ _ 80 _ _ _ _ _
    refine z_bipush (v := 63) dX12_signOf_80 (by decide) ?_
    refine z_iret dX12_signOf_82 rfl ?_
    refine ⟨congrArg (fun z => some (Value.int z)) ?_, rfl, rfl, rfl, rfl⟩
    first | (rw [‹k = _›]; rfl) | exact ((if_neg nc1_0).trans ((if_neg nc1_1).trans ((if_neg nc1_2).trans ((if_neg nc1_3).trans ((if_neg nc1_4).trans ((if_neg nc1_5).trans ((if_neg nc1_6).trans ((if_neg nc1_7).trans ((if_neg nc1_8).trans ((if_neg nc1_9).trans ((if_neg nc1_10).trans ((if_neg nc1_11).trans ((if_neg nc1_12).trans (rfl)))))))))))))).symm
  refine ⟨fun c1_5 => ?_, fun nc1_5 => ?_⟩
  · show zS _ _ _ _ _ _ _ 83 _ _ _ _ _
    refine z_bipush (v := 59) dX12_signOf_83 (by decide) ?_
    refine z_iret dX12_signOf_85 rfl ?_
    refine ⟨congrArg (fun z => some (Value.int z)) ?_, rfl, rfl, rfl, rfl⟩
    first | (rw [‹k = _›]; rfl) | exact ((if_neg nc1_0).trans ((if_neg nc1_1).trans ((if_neg nc1_2).trans ((if_neg nc1_3).trans ((if_neg nc1_4).trans ((if_neg nc1_5).trans ((if_neg nc1_6).trans ((if_neg nc1_7).trans ((if_neg nc1_8).trans ((if_neg nc1_9).trans ((if_neg nc1_10).trans ((if_neg nc1_11).trans ((if_neg nc1_12).trans (rfl)))))))))))))).symm
  refine ⟨fun c1_6 => ?_, fun nc1_6 => ?_⟩
  · show zS _ _ _ _ _ _ _ 86 _ _ _ _ _
    refine z_bipush (v := 61) dX12_signOf_86 (by decide) ?_
    refine z_iret dX12_signOf_88 rfl ?_
    refine ⟨congrArg (fun z => some (Value.int z)) ?_, rfl, rfl, rfl, rfl⟩
    first | (rw [‹k = _›]; rfl) | exact ((if_neg nc1_0).trans ((if_neg nc1_1).trans ((if_neg nc1_2).trans ((if_neg nc1_3).trans ((if_neg nc1_4).trans ((if_neg nc1_5).trans ((if_neg nc1_6).trans ((if_neg nc1_7).trans ((if_neg nc1_8).trans ((if_neg nc1_9).trans ((if_neg nc1_10).trans ((if_neg nc1_11).trans ((if_neg nc1_12).trans (rfl)))))))))))))).symm
  refine ⟨fun c1_7 => ?_, fun nc1_7 => ?_⟩
  · show zS _ _ _ _ _ _ _ 89 _ _ _ _ _
    refine z_bipush (v := 33) dX12_signOf_89 (by decide) ?_
    refine z_iret dX12_signOf_91 rfl ?_
    refine ⟨congrArg (fun z => some (Value.int z)) ?_, rfl, rfl, rfl, rfl⟩
    first | (rw [‹k = _›]; rfl) | exact ((if_neg nc1_0).trans ((if_neg nc1_1).trans ((if_neg nc1_2).trans ((if_neg nc1_3).trans ((if_neg nc1_4).trans ((if_neg nc1_5).trans ((if_neg nc1_6).trans ((if_neg nc1_7).trans ((if_neg nc1_8).trans ((if_neg nc1_9).trans ((if_neg nc1_10).trans ((if_neg nc1_11).trans ((if_neg nc1_12).trans (rfl)))))))))))))).symm
  refine ⟨fun c1_8 => ?_, fun nc1_8 => ?_⟩
  · show zS _ _ _ _ _ _ _ 92 _ _ _ _ _
    refine z_bipush (v := 94) dX12_signOf_92 (by decide) ?_
    refine z_iret dX12_signOf_94 rfl ?_
    refine ⟨congrArg (fun z => some (Value.int z)) ?_, rfl, rfl, rfl, rfl⟩
    first | (rw [‹k = _›]; rfl) | exact ((if_neg nc1_0).trans ((if_neg nc1_1).trans ((if_neg nc1_2).trans ((if_neg nc1_3).trans ((if_neg nc1_4).trans ((if_neg nc1_5).trans ((if_neg nc1_6).trans ((if_neg nc1_7).trans ((if_neg nc1_8).trans ((if_neg nc1_9).trans ((if_neg nc1_10).trans ((if_neg nc1_11).trans ((if_neg nc1_12).trans (rfl)))))))))))))).symm
  refine ⟨fun c1_9 => ?_, fun nc1_9 => ?_⟩
  · show zS _ _ _ _ _ _ _ 95 _ _ _ _ _
    refine z_bipush (v := 126) dX12_signOf_95 (by decide) ?_
    refine z_iret dX12_signOf_97 rfl ?_
    refine ⟨congrArg (fun z => some (Value.int z)) ?_, rfl, rfl, rfl, rfl⟩
    first | (rw [‹k = _›]; rfl) | exact ((if_neg nc1_0).trans ((if_neg nc1_1).trans ((if_neg nc1_2).trans ((if_neg nc1_3).trans ((if_neg nc1_4).trans ((if_neg nc1_5).trans ((if_neg nc1_6).trans ((if_neg nc1_7).trans ((if_neg nc1_8).trans ((if_neg nc1_9).trans ((if_neg nc1_10).trans ((if_neg nc1_11).trans ((if_neg nc1_12).trans (rfl)))))))))))))).symm
  refine ⟨fun c1_10 => ?_, fun nc1_10 => ?_⟩
  · show zS _ _ _ _ _ _ _ 98 _ _ _ _ _
    refine z_bipush (v := 37) dX12_signOf_98 (by decide) ?_
    refine z_iret dX12_signOf_100 rfl ?_
    refine ⟨congrArg (fun z => some (Value.int z)) ?_, rfl, rfl, rfl, rfl⟩
    first | (rw [‹k = _›]; rfl) | exact ((if_neg nc1_0).trans ((if_neg nc1_1).trans ((if_neg nc1_2).trans ((if_neg nc1_3).trans ((if_neg nc1_4).trans ((if_neg nc1_5).trans ((if_neg nc1_6).trans ((if_neg nc1_7).trans ((if_neg nc1_8).trans ((if_neg nc1_9).trans ((if_neg nc1_10).trans ((if_neg nc1_11).trans ((if_neg nc1_12).trans (rfl)))))))))))))).symm
  refine ⟨fun c1_11 => ?_, fun nc1_11 => ?_⟩
  · show zS _ _ _ _ _ _ _ 101 _ _ _ _ _
    refine z_bipush (v := 38) dX12_signOf_101 (by decide) ?_
    refine z_iret dX12_signOf_103 rfl ?_
    refine ⟨congrArg (fun z => some (Value.int z)) ?_, rfl, rfl, rfl, rfl⟩
    first | (rw [‹k = _›]; rfl) | exact ((if_neg nc1_0).trans ((if_neg nc1_1).trans ((if_neg nc1_2).trans ((if_neg nc1_3).trans ((if_neg nc1_4).trans ((if_neg nc1_5).trans ((if_neg nc1_6).trans ((if_neg nc1_7).trans ((if_neg nc1_8).trans ((if_neg nc1_9).trans ((if_neg nc1_10).trans ((if_neg nc1_11).trans ((if_neg nc1_12).trans (rfl)))))))))))))).symm
  refine ⟨fun c1_12 => ?_, fun nc1_12 => ?_⟩
  · show zS _ _ _ _ _ _ _ 104 _ _ _ _ _
    refine z_bipush (v := 64) dX12_signOf_104 (by decide) ?_
    refine z_iret dX12_signOf_106 rfl ?_
    refine ⟨congrArg (fun z => some (Value.int z)) ?_, rfl, rfl, rfl, rfl⟩
    first | (rw [‹k = _›]; rfl) | exact ((if_neg nc1_0).trans ((if_neg nc1_1).trans ((if_neg nc1_2).trans ((if_neg nc1_3).trans ((if_neg nc1_4).trans ((if_neg nc1_5).trans ((if_neg nc1_6).trans ((if_neg nc1_7).trans ((if_neg nc1_8).trans ((if_neg nc1_9).trans ((if_neg nc1_10).trans ((if_neg nc1_11).trans ((if_neg nc1_12).trans (rfl)))))))))))))).symm
  show zS _ _ _ _ _ _ _ 107 _ _ _ _ _
  refine z_bipush (v := 123) dX12_signOf_107 (by decide) ?_
  refine z_iret dX12_signOf_109 rfl ?_
  refine ⟨congrArg (fun z => some (Value.int z)) ?_, rfl, rfl, rfl, rfl⟩
  first | (rw [‹k = _›]; rfl) | exact ((if_neg nc1_0).trans ((if_neg nc1_1).trans ((if_neg nc1_2).trans ((if_neg nc1_3).trans ((if_neg nc1_4).trans ((if_neg nc1_5).trans ((if_neg nc1_6).trans ((if_neg nc1_7).trans ((if_neg nc1_8).trans ((if_neg nc1_9).trans ((if_neg nc1_10).trans ((if_neg nc1_11).trans ((if_neg nc1_12).trans (rfl)))))))))))))).symm
set_option maxRecDepth 20000 in
theorem R_X12_layNumber {l : Launch} {d : Nat} {D : zD} {b0 : Nat} {g : zG} {f M : zI} {o : Nat} (hW : RW b0 g o) (n : Nat) (v b : Int32) (hn : n < 396) : zM l d D b0 mX12_layNumber [.ref o, .int (nI n), .int v, .int b] g (rv o f M) (zEx (some (.int (nI (playNum M n v b).1))) g (rv o f ((playNum M n v b).2))) := by
  refine zM.start zmd_X12_layNumber (Nat.le_of_ble_eq_true rfl) ⟨rfl, rfl, rfl, rfl, trivial⟩ [some (.ref o), some (.int (nI n)), some (.int v), some (.int b), none] rfl ?_
  refine z_iload1 dX12_layNumber_0 ?_
  refine z_istore4 dX12_layNumber_1 ?_
  refine z_iload3 dX12_layNumber_3 ?_
  refine z_if_eq (tgt := 19) dX12_layNumber_4 (by decide) (fun c4 => ?_) (fun c4 => ?_)
  · show zS _ _ _ _ _ _ _ 19 _ _ _ _ _
    refine z_iload2 dX12_layNumber_19 ?_
    refine z_bipush (v := 99) dX12_layNumber_20 (by decide) ?_
    refine z_icmp_le (tgt := 42) dX12_layNumber_22 (by decide) (fun c22 => ?_) (fun c22 => ?_)
    · show zS _ _ _ _ _ _ _ 42 _ _ _ _ _
      refine z_iload2 dX12_layNumber_42 ?_
      refine z_bipush (v := 9) dX12_layNumber_43 (by decide) ?_
      refine z_icmp_le (tgt := 68) dX12_layNumber_45 (by decide) (fun c45 => ?_) (fun c45 => ?_)
      · show zS _ _ _ _ _ _ _ 68 _ _ _ _ _
        refine z_aload0 dX12_layNumber_68 ?_
        refine z_getRs fl_RX12_50 (by decide) hW.o (hW.r 12 rfl) dX12_layNumber_69 ?_
        refine z_iload4 dX12_layNumber_72 ?_
        refine z_bipush (v := 48) dX12_layNumber_74 (by decide) ?_
        refine z_iload2 dX12_layNumber_76 ?_
        refine z_bipush (v := 10) dX12_layNumber_77 (by decide) ?_
        refine z_irem dX12_layNumber_79 (by decide) ?_
        refine z_iadd dX12_layNumber_80 ?_
        refine zr_st hW (i := 12) rfl (by decide) (by decide) (rfl : nI n = nI n) (by omega) dX12_layNumber_81 ?_
        refine z_iload4 dX12_layNumber_82 ?_
        refine z_iconst (v := 1) dX12_layNumber_84 (by decide) ?_
        show zS _ _ _ _ _ _ _ 85 _ _ _ _ _
        refine z_iadd dX12_layNumber_85 ?_
        refine z_iret dX12_layNumber_86 rfl ?_
        unfold playNum
        first | rw [pputc_t c4] | rw [pputc_f (c := ¬ b = 0) (fun q => q c4)]
        first | rw [pputc_t c22] | rw [pputc_f c22]
        first | rw [pputc_t c45] | rw [pputc_f c45]
        simp only [nI_1]
        exact ⟨rfl, rfl, rfl, rfl, rfl⟩
      · show zS _ _ _ _ _ _ _ 48 _ _ _ _ _
        refine z_aload0 dX12_layNumber_48 ?_
        refine z_getRs fl_RX12_50 (by decide) hW.o (hW.r 12 rfl) dX12_layNumber_49 ?_
        refine z_iload4 dX12_layNumber_52 ?_
        refine z_bipush (v := 48) dX12_layNumber_54 (by decide) ?_
        refine z_iload2 dX12_layNumber_56 ?_
        refine z_bipush (v := 10) dX12_layNumber_57 (by decide) ?_
        refine z_idiv dX12_layNumber_59 (by decide) ?_
        refine z_bipush (v := 10) dX12_layNumber_60 (by decide) ?_
        refine z_irem dX12_layNumber_62 (by decide) ?_
        refine z_iadd dX12_layNumber_63 ?_
        refine zr_st hW (i := 12) rfl (by decide) (by decide) (rfl : nI n = nI n) (by omega) dX12_layNumber_64 ?_
        show zS _ _ _ _ _ _ _ 65 _ _ _ _ _
        refine z_iinc4 (y := 1) dX12_layNumber_65 (by decide) ?_
        refine z_aload0 dX12_layNumber_68 ?_
        refine z_getRs fl_RX12_50 (by decide) hW.o (hW.r 12 rfl) dX12_layNumber_69 ?_
        refine z_iload4 dX12_layNumber_72 ?_
        refine z_bipush (v := 48) dX12_layNumber_74 (by decide) ?_
        refine z_iload2 dX12_layNumber_76 ?_
        refine z_bipush (v := 10) dX12_layNumber_77 (by decide) ?_
        refine z_irem dX12_layNumber_79 (by decide) ?_
        refine z_iadd dX12_layNumber_80 ?_
        refine zr_st hW (i := 12) rfl (by decide) (by decide) (ixA (rfl : nI n = nI n) (ixC 1)) (by omega) dX12_layNumber_81 ?_
        refine z_iload4 dX12_layNumber_82 ?_
        refine z_iconst (v := 1) dX12_layNumber_84 (by decide) ?_
        show zS _ _ _ _ _ _ _ 85 _ _ _ _ _
        refine z_iadd dX12_layNumber_85 ?_
        refine z_iret dX12_layNumber_86 rfl ?_
        unfold playNum
        first | rw [pputc_t c4] | rw [pputc_f (c := ¬ b = 0) (fun q => q c4)]
        first | rw [pputc_t c22] | rw [pputc_f c22]
        first | rw [pputc_t c45] | rw [pputc_f c45]
        simp only [nI_1]
        exact ⟨rfl, rfl, rfl, rfl, rfl⟩
    · show zS _ _ _ _ _ _ _ 25 _ _ _ _ _
      refine z_aload0 dX12_layNumber_25 ?_
      refine z_getRs fl_RX12_50 (by decide) hW.o (hW.r 12 rfl) dX12_layNumber_26 ?_
      refine z_iload4 dX12_layNumber_29 ?_
      refine z_bipush (v := 48) dX12_layNumber_31 (by decide) ?_
      refine z_iload2 dX12_layNumber_33 ?_
      refine z_bipush (v := 100) dX12_layNumber_34 (by decide) ?_
      refine z_idiv dX12_layNumber_36 (by decide) ?_
      refine z_iadd dX12_layNumber_37 ?_
      refine zr_st hW (i := 12) rfl (by decide) (by decide) (rfl : nI n = nI n) (by omega) dX12_layNumber_38 ?_
      refine z_iinc4 (y := 1) dX12_layNumber_39 (by decide) ?_
      refine z_iload2 dX12_layNumber_42 ?_
      show zS _ _ _ _ _ _ _ 43 _ _ _ _ _
      refine z_bipush (v := 9) dX12_layNumber_43 (by decide) ?_
      refine z_icmp_le (tgt := 68) dX12_layNumber_45 (by decide) (fun c45 => ?_) (fun c45 => ?_)
      · show zS _ _ _ _ _ _ _ 68 _ _ _ _ _
        refine z_aload0 dX12_layNumber_68 ?_
        refine z_getRs fl_RX12_50 (by decide) hW.o (hW.r 12 rfl) dX12_layNumber_69 ?_
        refine z_iload4 dX12_layNumber_72 ?_
        refine z_bipush (v := 48) dX12_layNumber_74 (by decide) ?_
        refine z_iload2 dX12_layNumber_76 ?_
        refine z_bipush (v := 10) dX12_layNumber_77 (by decide) ?_
        refine z_irem dX12_layNumber_79 (by decide) ?_
        refine z_iadd dX12_layNumber_80 ?_
        refine zr_st hW (i := 12) rfl (by decide) (by decide) (ixA (rfl : nI n = nI n) (ixC 1)) (by omega) dX12_layNumber_81 ?_
        refine z_iload4 dX12_layNumber_82 ?_
        refine z_iconst (v := 1) dX12_layNumber_84 (by decide) ?_
        show zS _ _ _ _ _ _ _ 85 _ _ _ _ _
        refine z_iadd dX12_layNumber_85 ?_
        refine z_iret dX12_layNumber_86 rfl ?_
        unfold playNum
        first | rw [pputc_t c4] | rw [pputc_f (c := ¬ b = 0) (fun q => q c4)]
        first | rw [pputc_t c22] | rw [pputc_f c22]
        first | rw [pputc_t c45] | rw [pputc_f c45]
        simp only [nI_1]
        exact ⟨rfl, rfl, rfl, rfl, rfl⟩
      · show zS _ _ _ _ _ _ _ 48 _ _ _ _ _
        refine z_aload0 dX12_layNumber_48 ?_
        refine z_getRs fl_RX12_50 (by decide) hW.o (hW.r 12 rfl) dX12_layNumber_49 ?_
        refine z_iload4 dX12_layNumber_52 ?_
        refine z_bipush (v := 48) dX12_layNumber_54 (by decide) ?_
        refine z_iload2 dX12_layNumber_56 ?_
        refine z_bipush (v := 10) dX12_layNumber_57 (by decide) ?_
        refine z_idiv dX12_layNumber_59 (by decide) ?_
        refine z_bipush (v := 10) dX12_layNumber_60 (by decide) ?_
        refine z_irem dX12_layNumber_62 (by decide) ?_
        refine z_iadd dX12_layNumber_63 ?_
        refine zr_st hW (i := 12) rfl (by decide) (by decide) (ixA (rfl : nI n = nI n) (ixC 1)) (by omega) dX12_layNumber_64 ?_
        show zS _ _ _ _ _ _ _ 65 _ _ _ _ _
        refine z_iinc4 (y := 1) dX12_layNumber_65 (by decide) ?_
        refine z_aload0 dX12_layNumber_68 ?_
        refine z_getRs fl_RX12_50 (by decide) hW.o (hW.r 12 rfl) dX12_layNumber_69 ?_
        refine z_iload4 dX12_layNumber_72 ?_
        refine z_bipush (v := 48) dX12_layNumber_74 (by decide) ?_
        refine z_iload2 dX12_layNumber_76 ?_
        refine z_bipush (v := 10) dX12_layNumber_77 (by decide) ?_
        refine z_irem dX12_layNumber_79 (by decide) ?_
        refine z_iadd dX12_layNumber_80 ?_
        refine zr_st hW (i := 12) rfl (by decide) (by decide) (ixA (ixA (rfl : nI n = nI n) (ixC 1)) (ixC 1)) (by omega) dX12_layNumber_81 ?_
        refine z_iload4 dX12_layNumber_82 ?_
        refine z_iconst (v := 1) dX12_layNumber_84 (by decide) ?_
        show zS _ _ _ _ _ _ _ 85 _ _ _ _ _
        refine z_iadd dX12_layNumber_85 ?_
        refine z_iret dX12_layNumber_86 rfl ?_
        unfold playNum
        first | rw [pputc_t c4] | rw [pputc_f (c := ¬ b = 0) (fun q => q c4)]
        first | rw [pputc_t c22] | rw [pputc_f c22]
        first | rw [pputc_t c45] | rw [pputc_f c45]
        simp only [nI_1]
        exact ⟨rfl, rfl, rfl, rfl, rfl⟩
  · show zS _ _ _ _ _ _ _ 7 _ _ _ _ _
    refine z_aload0 dX12_layNumber_7 ?_
    refine z_getRs fl_RX12_50 (by decide) hW.o (hW.r 12 rfl) dX12_layNumber_8 ?_
    refine z_iload4 dX12_layNumber_11 ?_
    refine z_bipush (v := 32) dX12_layNumber_13 (by decide) ?_
    refine zr_st hW (i := 12) rfl (by decide) (by decide) (rfl : nI n = nI n) (by omega) dX12_layNumber_15 ?_
    refine z_iinc4 (y := 1) dX12_layNumber_16 (by decide) ?_
    refine z_iload2 dX12_layNumber_19 ?_
    refine z_bipush (v := 99) dX12_layNumber_20 (by decide) ?_
    refine z_icmp_le (tgt := 42) dX12_layNumber_22 (by decide) (fun c22 => ?_) (fun c22 => ?_)
    · show zS _ _ _ _ _ _ _ 42 _ _ _ _ _
      refine z_iload2 dX12_layNumber_42 ?_
      refine z_bipush (v := 9) dX12_layNumber_43 (by decide) ?_
      refine z_icmp_le (tgt := 68) dX12_layNumber_45 (by decide) (fun c45 => ?_) (fun c45 => ?_)
      · show zS _ _ _ _ _ _ _ 68 _ _ _ _ _
        refine z_aload0 dX12_layNumber_68 ?_
        refine z_getRs fl_RX12_50 (by decide) hW.o (hW.r 12 rfl) dX12_layNumber_69 ?_
        refine z_iload4 dX12_layNumber_72 ?_
        refine z_bipush (v := 48) dX12_layNumber_74 (by decide) ?_
        refine z_iload2 dX12_layNumber_76 ?_
        refine z_bipush (v := 10) dX12_layNumber_77 (by decide) ?_
        refine z_irem dX12_layNumber_79 (by decide) ?_
        refine z_iadd dX12_layNumber_80 ?_
        refine zr_st hW (i := 12) rfl (by decide) (by decide) (ixA (rfl : nI n = nI n) (ixC 1)) (by omega) dX12_layNumber_81 ?_
        refine z_iload4 dX12_layNumber_82 ?_
        refine z_iconst (v := 1) dX12_layNumber_84 (by decide) ?_
        show zS _ _ _ _ _ _ _ 85 _ _ _ _ _
        refine z_iadd dX12_layNumber_85 ?_
        refine z_iret dX12_layNumber_86 rfl ?_
        unfold playNum
        first | rw [pputc_t c4] | rw [pputc_f (c := ¬ b = 0) (fun q => q c4)]
        first | rw [pputc_t c22] | rw [pputc_f c22]
        first | rw [pputc_t c45] | rw [pputc_f c45]
        simp only [nI_1]
        exact ⟨rfl, rfl, rfl, rfl, rfl⟩
      · show zS _ _ _ _ _ _ _ 48 _ _ _ _ _
        refine z_aload0 dX12_layNumber_48 ?_
        refine z_getRs fl_RX12_50 (by decide) hW.o (hW.r 12 rfl) dX12_layNumber_49 ?_
        refine z_iload4 dX12_layNumber_52 ?_
        refine z_bipush (v := 48) dX12_layNumber_54 (by decide) ?_
        refine z_iload2 dX12_layNumber_56 ?_
        refine z_bipush (v := 10) dX12_layNumber_57 (by decide) ?_
        refine z_idiv dX12_layNumber_59 (by decide) ?_
        refine z_bipush (v := 10) dX12_layNumber_60 (by decide) ?_
        refine z_irem dX12_layNumber_62 (by decide) ?_
        refine z_iadd dX12_layNumber_63 ?_
        refine zr_st hW (i := 12) rfl (by decide) (by decide) (ixA (rfl : nI n = nI n) (ixC 1)) (by omega) dX12_layNumber_64 ?_
        show zS _ _ _ _ _ _ _ 65 _ _ _ _ _
        refine z_iinc4 (y := 1) dX12_layNumber_65 (by decide) ?_
        refine z_aload0 dX12_layNumber_68 ?_
        refine z_getRs fl_RX12_50 (by decide) hW.o (hW.r 12 rfl) dX12_layNumber_69 ?_
        refine z_iload4 dX12_layNumber_72 ?_
        refine z_bipush (v := 48) dX12_layNumber_74 (by decide) ?_
        refine z_iload2 dX12_layNumber_76 ?_
        refine z_bipush (v := 10) dX12_layNumber_77 (by decide) ?_
        refine z_irem dX12_layNumber_79 (by decide) ?_
        refine z_iadd dX12_layNumber_80 ?_
        refine zr_st hW (i := 12) rfl (by decide) (by decide) (ixA (ixA (rfl : nI n = nI n) (ixC 1)) (ixC 1)) (by omega) dX12_layNumber_81 ?_
        refine z_iload4 dX12_layNumber_82 ?_
        refine z_iconst (v := 1) dX12_layNumber_84 (by decide) ?_
        show zS _ _ _ _ _ _ _ 85 _ _ _ _ _
        refine z_iadd dX12_layNumber_85 ?_
        refine z_iret dX12_layNumber_86 rfl ?_
        unfold playNum
        first | rw [pputc_t c4] | rw [pputc_f (c := ¬ b = 0) (fun q => q c4)]
        first | rw [pputc_t c22] | rw [pputc_f c22]
        first | rw [pputc_t c45] | rw [pputc_f c45]
        simp only [nI_1]
        exact ⟨rfl, rfl, rfl, rfl, rfl⟩
    · show zS _ _ _ _ _ _ _ 25 _ _ _ _ _
      refine z_aload0 dX12_layNumber_25 ?_
      refine z_getRs fl_RX12_50 (by decide) hW.o (hW.r 12 rfl) dX12_layNumber_26 ?_
      refine z_iload4 dX12_layNumber_29 ?_
      refine z_bipush (v := 48) dX12_layNumber_31 (by decide) ?_
      refine z_iload2 dX12_layNumber_33 ?_
      refine z_bipush (v := 100) dX12_layNumber_34 (by decide) ?_
      refine z_idiv dX12_layNumber_36 (by decide) ?_
      refine z_iadd dX12_layNumber_37 ?_
      refine zr_st hW (i := 12) rfl (by decide) (by decide) (ixA (rfl : nI n = nI n) (ixC 1)) (by omega) dX12_layNumber_38 ?_
      refine z_iinc4 (y := 1) dX12_layNumber_39 (by decide) ?_
      refine z_iload2 dX12_layNumber_42 ?_
      show zS _ _ _ _ _ _ _ 43 _ _ _ _ _
      refine z_bipush (v := 9) dX12_layNumber_43 (by decide) ?_
      refine z_icmp_le (tgt := 68) dX12_layNumber_45 (by decide) (fun c45 => ?_) (fun c45 => ?_)
      · show zS _ _ _ _ _ _ _ 68 _ _ _ _ _
        refine z_aload0 dX12_layNumber_68 ?_
        refine z_getRs fl_RX12_50 (by decide) hW.o (hW.r 12 rfl) dX12_layNumber_69 ?_
        refine z_iload4 dX12_layNumber_72 ?_
        refine z_bipush (v := 48) dX12_layNumber_74 (by decide) ?_
        refine z_iload2 dX12_layNumber_76 ?_
        refine z_bipush (v := 10) dX12_layNumber_77 (by decide) ?_
        refine z_irem dX12_layNumber_79 (by decide) ?_
        refine z_iadd dX12_layNumber_80 ?_
        refine zr_st hW (i := 12) rfl (by decide) (by decide) (ixA (ixA (rfl : nI n = nI n) (ixC 1)) (ixC 1)) (by omega) dX12_layNumber_81 ?_
        refine z_iload4 dX12_layNumber_82 ?_
        refine z_iconst (v := 1) dX12_layNumber_84 (by decide) ?_
        show zS _ _ _ _ _ _ _ 85 _ _ _ _ _
        refine z_iadd dX12_layNumber_85 ?_
        refine z_iret dX12_layNumber_86 rfl ?_
        unfold playNum
        first | rw [pputc_t c4] | rw [pputc_f (c := ¬ b = 0) (fun q => q c4)]
        first | rw [pputc_t c22] | rw [pputc_f c22]
        first | rw [pputc_t c45] | rw [pputc_f c45]
        simp only [nI_1]
        exact ⟨rfl, rfl, rfl, rfl, rfl⟩
      · show zS _ _ _ _ _ _ _ 48 _ _ _ _ _
        refine z_aload0 dX12_layNumber_48 ?_
        refine z_getRs fl_RX12_50 (by decide) hW.o (hW.r 12 rfl) dX12_layNumber_49 ?_
        refine z_iload4 dX12_layNumber_52 ?_
        refine z_bipush (v := 48) dX12_layNumber_54 (by decide) ?_
        refine z_iload2 dX12_layNumber_56 ?_
        refine z_bipush (v := 10) dX12_layNumber_57 (by decide) ?_
        refine z_idiv dX12_layNumber_59 (by decide) ?_
        refine z_bipush (v := 10) dX12_layNumber_60 (by decide) ?_
        refine z_irem dX12_layNumber_62 (by decide) ?_
        refine z_iadd dX12_layNumber_63 ?_
        refine zr_st hW (i := 12) rfl (by decide) (by decide) (ixA (ixA (rfl : nI n = nI n) (ixC 1)) (ixC 1)) (by omega) dX12_layNumber_64 ?_
        show zS _ _ _ _ _ _ _ 65 _ _ _ _ _
        refine z_iinc4 (y := 1) dX12_layNumber_65 (by decide) ?_
        refine z_aload0 dX12_layNumber_68 ?_
        refine z_getRs fl_RX12_50 (by decide) hW.o (hW.r 12 rfl) dX12_layNumber_69 ?_
        refine z_iload4 dX12_layNumber_72 ?_
        refine z_bipush (v := 48) dX12_layNumber_74 (by decide) ?_
        refine z_iload2 dX12_layNumber_76 ?_
        refine z_bipush (v := 10) dX12_layNumber_77 (by decide) ?_
        refine z_irem dX12_layNumber_79 (by decide) ?_
        refine z_iadd dX12_layNumber_80 ?_
        refine zr_st hW (i := 12) rfl (by decide) (by decide) (ixA (ixA (ixA (rfl : nI n = nI n) (ixC 1)) (ixC 1)) (ixC 1)) (by omega) dX12_layNumber_81 ?_
        refine z_iload4 dX12_layNumber_82 ?_
        refine z_iconst (v := 1) dX12_layNumber_84 (by decide) ?_
        show zS _ _ _ _ _ _ _ 85 _ _ _ _ _
        refine z_iadd dX12_layNumber_85 ?_
        refine z_iret dX12_layNumber_86 rfl ?_
        unfold playNum
        first | rw [pputc_t c4] | rw [pputc_f (c := ¬ b = 0) (fun q => q c4)]
        first | rw [pputc_t c22] | rw [pputc_f c22]
        first | rw [pputc_t c45] | rw [pputc_f c45]
        simp only [nI_1]
        exact ⟨rfl, rfl, rfl, rfl, rfl⟩
set_option maxRecDepth 20000 in
theorem R_X12_namedBy {l : Launch} {d : Nat} {D : zD} {b0 : Nat} {g : zG} {f M : zI} {o : Nat} (hW : RW b0 g o) (x : Int32) (hx : iv 65000 x) (hd : 1 ≤ d) : zM l d D b0 mX12_namedBy [.ref o, .int x] g (rv o f M) (zEx (some (.int (pnamed M x))) g (rv o f M)) := by
  refine zM.start zmd_X12_namedBy (Nat.le_of_ble_eq_true rfl) ⟨rfl, rfl, trivial⟩ [some (.ref o), some (.int x)] rfl ?_
  refine z_aload0 dX12_namedBy_0 ?_
  refine z_iload1 dX12_namedBy_1 ?_
  refine z_callVi zmd_X12_kind rfl (by decide) zl_RX12_134 zin_X12_kind zsel_X12_kind (R_X12_kind (d := d - 1) hW _ hx) hW.o rfl rfl (by omega) rfl dX12_namedBy_2 ?_
  refine z_tab dX12_namedBy_5 (by decide +kernel) (by decide +kernel) ?_
  refine ⟨fun c5_0 => ?_, fun nc5_0 => ?_⟩
  · show zS _ _ _ _ _ _ _ 44 _ _ _ _ _
    refine z_bipush (v := 97) dX12_namedBy_44 (by decide) ?_
    refine z_aload0 dX12_namedBy_46 ?_
    refine z_iload1 dX12_namedBy_47 ?_
    refine z_callVi zmd_X12_argument rfl (by decide) zl_RX12_137 zin_X12_argument zsel_X12_argument (R_X12_argument (d := d - 1) hW _ hx) hW.o rfl rfl (by omega) rfl dX12_namedBy_48 ?_
    refine z_iadd dX12_namedBy_51 ?_
    refine z_iret dX12_namedBy_52 rfl ?_
    refine ⟨congrArg (fun z => some (Value.int z)) ?_, rfl, rfl, rfl, rfl⟩
    unfold pnamed
    rw [‹pkind M x = _›]; rfl
  refine ⟨fun c5_1 => ?_, fun nc5_1 => ?_⟩
  · show zS _ _ _ _ _ _ _ 71 _ _ _ _ _
    refine z_bipush (v := (-9)) dX12_namedBy_71 (by decide) ?_
    refine z_iret dX12_namedBy_73 rfl ?_
    refine ⟨congrArg (fun z => some (Value.int z)) ?_, rfl, rfl, rfl, rfl⟩
    unfold pnamed
    first | (rw [‹pkind M x = _›]; rfl) | exact ((if_neg nc5_0).trans ((if_neg nc5_1).trans ((if_neg nc5_2).trans ((if_neg nc5_3).trans ((if_neg nc5_4).trans ((if_neg nc5_5).trans (rfl))))))).symm
  refine ⟨fun c5_2 => ?_, fun nc5_2 => ?_⟩
  · show zS _ _ _ _ _ _ _ 53 _ _ _ _ _
    refine z_bipush (v := 65) dX12_namedBy_53 (by decide) ?_
    refine z_aload0 dX12_namedBy_55 ?_
    refine z_iload1 dX12_namedBy_56 ?_
    refine z_callVi zmd_X12_argument rfl (by decide) zl_RX12_137 zin_X12_argument zsel_X12_argument (R_X12_argument (d := d - 1) hW _ hx) hW.o rfl rfl (by omega) rfl dX12_namedBy_57 ?_
    refine z_iadd dX12_namedBy_60 ?_
    refine z_iret dX12_namedBy_61 rfl ?_
    refine ⟨congrArg (fun z => some (Value.int z)) ?_, rfl, rfl, rfl, rfl⟩
    unfold pnamed
    rw [‹pkind M x = _›]; rfl
  refine ⟨fun c5_3 => ?_, fun nc5_3 => ?_⟩
  · show zS _ _ _ _ _ _ _ 53 _ _ _ _ _
    refine z_bipush (v := 65) dX12_namedBy_53 (by decide) ?_
    refine z_aload0 dX12_namedBy_55 ?_
    refine z_iload1 dX12_namedBy_56 ?_
    refine z_callVi zmd_X12_argument rfl (by decide) zl_RX12_137 zin_X12_argument zsel_X12_argument (R_X12_argument (d := d - 1) hW _ hx) hW.o rfl rfl (by omega) rfl dX12_namedBy_57 ?_
    refine z_iadd dX12_namedBy_60 ?_
    refine z_iret dX12_namedBy_61 rfl ?_
    refine ⟨congrArg (fun z => some (Value.int z)) ?_, rfl, rfl, rfl, rfl⟩
    unfold pnamed
    rw [‹pkind M x = _›]; rfl
  refine ⟨fun c5_4 => ?_, fun nc5_4 => ?_⟩
  · show zS _ _ _ _ _ _ _ 71 _ _ _ _ _
    refine z_bipush (v := (-9)) dX12_namedBy_71 (by decide) ?_
    refine z_iret dX12_namedBy_73 rfl ?_
    refine ⟨congrArg (fun z => some (Value.int z)) ?_, rfl, rfl, rfl, rfl⟩
    unfold pnamed
    first | (rw [‹pkind M x = _›]; rfl) | exact ((if_neg nc5_0).trans ((if_neg nc5_1).trans ((if_neg nc5_2).trans ((if_neg nc5_3).trans ((if_neg nc5_4).trans ((if_neg nc5_5).trans (rfl))))))).symm
  refine ⟨fun c5_5 => ?_, fun nc5_5 => ?_⟩
  · show zS _ _ _ _ _ _ _ 62 _ _ _ _ _
    refine z_bipush (v := 48) dX12_namedBy_62 (by decide) ?_
    refine z_aload0 dX12_namedBy_64 ?_
    refine z_iload1 dX12_namedBy_65 ?_
    refine z_callVi zmd_X12_argument rfl (by decide) zl_RX12_137 zin_X12_argument zsel_X12_argument (R_X12_argument (d := d - 1) hW _ hx) hW.o rfl rfl (by omega) rfl dX12_namedBy_66 ?_
    refine z_iadd dX12_namedBy_69 ?_
    refine z_iret dX12_namedBy_70 rfl ?_
    refine ⟨congrArg (fun z => some (Value.int z)) ?_, rfl, rfl, rfl, rfl⟩
    unfold pnamed
    rw [‹pkind M x = _›]; rfl
  show zS _ _ _ _ _ _ _ 71 _ _ _ _ _
  refine z_bipush (v := (-9)) dX12_namedBy_71 (by decide) ?_
  refine z_iret dX12_namedBy_73 rfl ?_
  refine ⟨congrArg (fun z => some (Value.int z)) ?_, rfl, rfl, rfl, rfl⟩
  unfold pnamed
  first | (rw [‹pkind M x = _›]; rfl) | exact ((if_neg nc5_0).trans ((if_neg nc5_1).trans ((if_neg nc5_2).trans ((if_neg nc5_3).trans ((if_neg nc5_4).trans ((if_neg nc5_5).trans (rfl))))))).symm
theorem pclA_12 {M : zI} {w : Int32} {a : Nat} {v : Int32} : ∀ {k : Nat} {c : Int32}, pclA (zup M 12 a v) w k c = pclA M w k c := by
  intro k
  induction k with
  | zero => intro c; rfl
  | succ k ih =>
    intro c
    unfold pclA
    rw [zup_r (show (1 : Nat) ≠ 12 by decide), ih]
theorem pclV_12 {M : zI} {a : Nat} {v : Int32} : ∀ {k : Nat} {c : Int32}, pclV (zup M 12 a v) k c ↔ pclV M k c := by
  intro k
  induction k with
  | zero => intro c; exact Iff.rfl
  | succ k ih =>
    intro c
    unfold pclV
    rw [zup_r (show (1 : Nat) ≠ 12 by decide), ih]
theorem pclause_12 {M : zI} {w x : Int32} {a : Nat} {v : Int32} : pclause (zup M 12 a v) x w = pclause M x w := by
  unfold pclause
  rw [pclA_12, zup_r (show (1 : Nat) ≠ 12 by decide)]
theorem plpV.s {M : zI} {x : Int32} (h : plpV M x) (a : Nat) (v : Int32) : plpV (zup M 12 a v) x := by
  refine ⟨h.1, ?_, fun w => ?_⟩
  · unfold pclOk
    rw [zup_r (show (1 : Nat) ≠ 12 by decide)]
    exact pclV_12.mpr h.2.1
  · rw [pclause_12]
    exact h.2.2 w
theorem plpV.s3 {M : zI} {x : Int32} (h : plpV M x) (k n : Nat) : plpV (plpC1 x k (n, M)).2 x := ((h.s _ _).s _ _).s _ _
set_option maxRecDepth 20000 in
theorem Rl_X12_layParts1 {l : Launch} {d : Nat} {D : zD} {b0 : Nat} {g : zG} {f : zI} {o : Nat} (hW : RW b0 g o) (x y1 : Int32) (hd : 2 ≤ d) (Q : Nat → Nat → zKT → Prop) (q0 : Nat × zI) : ∀ (k : Nat) (n : Nat) (M : zI) (y5 : Option Value), k ≤ 7 → n + 3 * k ≤ 398 → plpV M x → plpC x k (n, M) = q0 → (∀ x4 x5 : Option Value, plpV q0.2 x → q0.1 ≤ 398 → zS l d D b0 mX12_layParts 0 0 114 [some (.ref o), some (.int y1), some (.int x), some (.int (nI q0.1)), x4, x5] [] g (rv o f q0.2) Q) → zS l d D b0 mX12_layParts 0 0 27 [some (.ref o), some (.int y1), some (.int x), some (.int (nI n)), some (.int (nI k - 1)), y5] [] g (rv o f M) Q := by
  intro k
  induction k with
  | zero =>
    intro n M y5 hk hn hV he kk
    rw [← he] at kk
    refine z_iload4 dX12_layParts_27 ?_
    refine z_if_lt (tgt := 114) dX12_layParts_29 (by decide) (fun c82 => ?_) (fun c82 => ?_)
    · exact kk _ _ hV (by show n ≤ 398; omega)
    · exact absurd (by decide : (nI 0 - 1 : Int32) < 0) c82
  | succ k ih =>
    intro n M y5 hk hn hV he kk
    have hk1 : k < 7 := by omega
    rw [show (nI (k + 1) - 1 : Int32) = nI k from nI_pred k]
    refine z_iload4 dX12_layParts_27 ?_
    refine z_if_lt (tgt := 114) dX12_layParts_29 (by decide) (fun c82 => absurd c82 (nI_pos (by omega))) (fun c82 => ?_)
    show zS _ _ _ _ _ _ _ 32 _ _ _ _ _
    refine z_aload0 dX12_layParts_32 ?_
    refine z_iload2 dX12_layParts_33 ?_
    refine z_iload4 dX12_layParts_34 ?_
    refine z_callVi zmd_X12_clause rfl (by decide) zl_RX12_131 zin_X12_clause zsel_X12_clause (R_X12_clause (d := d - 1) hW _ _ hV.1 hV.2.1) hW.o rfl rfl (by omega) rfl dX12_layParts_36 ?_
    refine z_istore5 dX12_layParts_39 ?_
    refine z_iload5 dX12_layParts_41 ?_
    refine z_bipush (v := (-9)) dX12_layParts_43 (by decide) ?_
    refine z_icmp_eq (tgt := 108) dX12_layParts_45 (by decide) (fun c45 => ?_) (fun c45 => ?_)
    · show zS _ _ _ _ _ _ _ 108 _ _ _ _ _
      refine z_iinc4 (y := (-1)) dX12_layParts_108 (by decide) ?_
      refine z_goto (tgt := 27) dX12_layParts_111 (by decide) ?_
      rw [show (nI k + -1 : Int32) = nI k - 1 from by rw [Int32.sub_eq_add_neg]]
      first
        | (rw [show plpC x (k + 1) (n, M) = plpC x k (n, M) from congrArg (plpC x k) (if_pos c45)] at he; exact ih n M _ (by omega) (by omega) hV he kk)
        | (rw [show plpC x (k + 1) (n, M) = plpC x k (plpC1 x k (n, M)) from congrArg (plpC x k) (if_neg c45)] at he
           have e3 : (nI n + 3 : Int32) = nI (n + 3) := nI_add n 3
           rw [e3]
           have K := ih (n + 3) (plpC1 x k (n, M)).2 (some (.int (pclause M x (nI k)))) (by omega) (by omega) (hV.s3 k n) he kk
           unfold plpC1 at K
           first | (rw [if_pos (by assumption)] at K; exact K) | (rw [if_neg (by assumption)] at K; exact K))
    · show zS _ _ _ _ _ _ _ 48 _ _ _ _ _
      refine z_aload0 dX12_layParts_48 ?_
      refine z_getRs fl_RX12_47 (by decide) hW.o (hW.r 11 rfl) dX12_layParts_49 ?_
      refine z_iload3 dX12_layParts_52 ?_
      refine z_aload0 dX12_layParts_53 ?_
      refine z_iload5 dX12_layParts_54 ?_
      refine z_iconst (v := 1) dX12_layParts_56 (by decide) ?_
      refine z_callVi zmd_X12_part rfl (by decide) zl_RX12_165 zin_X12_part zsel_X12_part (R_X12_part (d := d - 1) hW _ (hV.2.2 _ c45) _ (⟨by decide, by decide⟩ : iv 4 (1 : Int32))) hW.o rfl rfl (by omega) rfl dX12_layParts_57 ?_
      refine zr_st hW (i := 11) rfl (by decide) (by decide) (rfl : nI n = nI n) (by omega) dX12_layParts_60 ?_
      refine z_aload0 dX12_layParts_61 ?_
      refine z_getRs fl_RX12_47 (by decide) hW.o (hW.r 11 rfl) dX12_layParts_62 ?_
      refine z_iload3 dX12_layParts_65 ?_
      show zS _ _ _ _ _ _ _ 66 _ _ _ _ _
      refine z_iconst (v := 1) dX12_layParts_66 (by decide) ?_
      refine z_iadd dX12_layParts_67 ?_
      refine z_bipush (v := 97) dX12_layParts_68 (by decide) ?_
      refine z_aload0 dX12_layParts_70 ?_
      refine z_iload5 dX12_layParts_71 ?_
      refine z_callVi zmd_X12_argument rfl (by decide) zl_RX12_137 zin_X12_argument zsel_X12_argument (R_X12_argument (d := d - 1) hW _ (hV.2.2 _ c45)) hW.o rfl rfl (by omega) rfl dX12_layParts_73 ?_
      refine z_iadd dX12_layParts_76 ?_
      refine z_ineg dX12_layParts_77 ?_
      refine zr_st hW (i := 11) rfl (by decide) (by decide) (ixA (rfl : nI n = nI n) (ixC 1)) (by omega) dX12_layParts_78 ?_
      refine z_aload0 dX12_layParts_79 ?_
      refine z_getRs fl_RX12_47 (by decide) hW.o (hW.r 11 rfl) dX12_layParts_80 ?_
      refine z_iload3 dX12_layParts_83 ?_
      show zS _ _ _ _ _ _ _ 84 _ _ _ _ _
      refine z_iconst (v := 2) dX12_layParts_84 (by decide) ?_
      refine z_iadd dX12_layParts_85 ?_
      refine z_iload4 dX12_layParts_86 ?_
      refine z_bipush (v := 6) dX12_layParts_88 (by decide) ?_
      refine z_icmp_ne (tgt := 98) dX12_layParts_90 (by decide) (fun c90 => ?_) (fun c90 => ?_)
      · show zS _ _ _ _ _ _ _ 98 _ _ _ _ _
        refine z_bipush (v := 65) dX12_layParts_98 (by decide) ?_
        refine z_iload4 dX12_layParts_100 ?_
        refine z_iadd dX12_layParts_102 ?_
        refine z_ineg dX12_layParts_103 ?_
        refine zr_st hW (i := 11) rfl (by decide) (by decide) (ixA (rfl : nI n = nI n) (ixC 2)) (by omega) dX12_layParts_104 ?_
        refine z_iinc3 (y := 3) dX12_layParts_105 (by decide) ?_
        refine z_iinc4 (y := (-1)) dX12_layParts_108 (by decide) ?_
        refine z_goto (tgt := 27) dX12_layParts_111 (by decide) ?_
        rw [show (nI k + -1 : Int32) = nI k - 1 from by rw [Int32.sub_eq_add_neg]]
        first
          | (rw [show plpC x (k + 1) (n, M) = plpC x k (n, M) from congrArg (plpC x k) (if_pos c45)] at he; exact ih n M _ (by omega) (by omega) hV he kk)
          | (rw [show plpC x (k + 1) (n, M) = plpC x k (plpC1 x k (n, M)) from congrArg (plpC x k) (if_neg c45)] at he
             have e3 : (nI n + 3 : Int32) = nI (n + 3) := nI_add n 3
             rw [e3]
             have K := ih (n + 3) (plpC1 x k (n, M)).2 (some (.int (pclause M x (nI k)))) (by omega) (by omega) (hV.s3 k n) he kk
             unfold plpC1 at K
             first | (rw [if_pos (by assumption)] at K; exact K) | (rw [if_neg (by assumption)] at K; exact K))
      · show zS _ _ _ _ _ _ _ 93 _ _ _ _ _
        refine z_bipush (v := (-58)) dX12_layParts_93 (by decide) ?_
        refine z_goto (tgt := 104) dX12_layParts_95 (by decide) ?_
        show zS _ _ _ _ _ _ _ 104 _ _ _ _ _
        refine zr_st hW (i := 11) rfl (by decide) (by decide) (ixA (rfl : nI n = nI n) (ixC 2)) (by omega) dX12_layParts_104 ?_
        refine z_iinc3 (y := 3) dX12_layParts_105 (by decide) ?_
        refine z_iinc4 (y := (-1)) dX12_layParts_108 (by decide) ?_
        refine z_goto (tgt := 27) dX12_layParts_111 (by decide) ?_
        rw [show (nI k + -1 : Int32) = nI k - 1 from by rw [Int32.sub_eq_add_neg]]
        first
          | (rw [show plpC x (k + 1) (n, M) = plpC x k (n, M) from congrArg (plpC x k) (if_pos c45)] at he; exact ih n M _ (by omega) (by omega) hV he kk)
          | (rw [show plpC x (k + 1) (n, M) = plpC x k (plpC1 x k (n, M)) from congrArg (plpC x k) (if_neg c45)] at he
             have e3 : (nI n + 3 : Int32) = nI (n + 3) := nI_add n 3
             rw [e3]
             have K := ih (n + 3) (plpC1 x k (n, M)).2 (some (.int (pclause M x (nI k)))) (by omega) (by omega) (hV.s3 k n) he kk
             unfold plpC1 at K
             first | (rw [if_pos (by assumption)] at K; exact K) | (rw [if_neg (by assumption)] at K; exact K))
set_option maxRecDepth 20000 in
theorem Rl_X12_layParts2 {l : Launch} {d : Nat} {D : zD} {b0 : Nat} {g : zG} {f : zI} {o : Nat} (hW : RW b0 g o) (x y1 : Int32) (hx : iv 65000 x) (hd : 2 ≤ d) (Q : Nat → Nat → zKT → Prop) (q0 : Nat × zI) : ∀ (k : Nat) (n : Nat) (M : zI) (y5 : Option Value), k ≤ 3 → n + k ≤ 398 → plpP x k (n, M) = q0 → (∀ x4 x5 : Option Value, zS l d D b0 mX12_layParts 0 0 168 [some (.ref o), some (.int y1), some (.int x), some (.int (nI q0.1)), x4, x5] [] g (rv o f q0.2) Q) → zS l d D b0 mX12_layParts 0 0 140 [some (.ref o), some (.int y1), some (.int x), some (.int (nI n)), some (.int (nI k)), y5] [] g (rv o f M) Q := by
  intro k
  induction k with
  | zero =>
    intro n M y5 hk hn he kk
    rw [← he] at kk
    refine z_iload4 dX12_layParts_140 ?_
    refine z_iconst (v := 1) dX12_layParts_142 (by decide) ?_
    refine z_icmp_lt (tgt := 168) dX12_layParts_143 (by decide) (fun c82 => ?_) (fun c82 => ?_)
    · exact kk _ _
    · exact absurd (by decide : (nI 0 : Int32) < 1) c82
  | succ k ih =>
    intro n M y5 hk hn he kk
    refine z_iload4 dX12_layParts_140 ?_
    refine z_iconst (v := 1) dX12_layParts_142 (by decide) ?_
    refine z_icmp_lt (tgt := 168) dX12_layParts_143 (by decide) (fun c82 => absurd c82 (nI_nlt (a := k + 1) (b := 1) (by omega) (by omega))) (fun c82 => ?_)
    show zS _ _ _ _ _ _ _ 146 _ _ _ _ _
    refine z_aload0 dX12_layParts_146 ?_
    refine z_getRs fl_RX12_47 (by decide) hW.o (hW.r 11 rfl) dX12_layParts_147 ?_
    refine z_iload3 dX12_layParts_150 ?_
    refine z_aload0 dX12_layParts_151 ?_
    refine z_iload2 dX12_layParts_152 ?_
    refine z_iload4 dX12_layParts_153 ?_
    refine z_callVi zmd_X12_part rfl (by decide) zl_RX12_165 zin_X12_part zsel_X12_part (R_X12_part (d := d - 1) hW _ hx _ (iv_nI (by omega) (by decide))) hW.o rfl rfl (by omega) rfl dX12_layParts_155 ?_
    refine zr_st hW (i := 11) rfl (by decide) (by decide) (rfl : nI n = nI n) (by omega) dX12_layParts_158 ?_
    refine z_iinc3 (y := 1) dX12_layParts_159 (by decide) ?_
    refine z_iinc4 (y := (-1)) dX12_layParts_162 (by decide) ?_
    refine z_goto (tgt := 140) dX12_layParts_165 (by decide) ?_
    show zS _ _ _ _ _ _ _ 140 _ _ _ _ _
    rw [show (nI (k + 1) + -1 : Int32) = nI k from pk_m1 k, nI_1]
    exact ih (n + 1) _ _ (by omega) (by omega) he kk
theorem pparts_n (k : Int32) : iv 4 (pparts k) := by
  unfold pparts
  split
  · exact ⟨by decide, by decide⟩
  · split
    · exact ⟨by decide, by decide⟩
    · exact ⟨by decide, by decide⟩
set_option maxRecDepth 20000 in
theorem R_X12_layParts {l : Launch} {d : Nat} {D : zD} {b0 : Nat} {g : zG} {f M : zI} {o : Nat} (hW : RW b0 g o) (n : Nat) (x : Int32) (hn : n ≤ 370) (hx : iv 65000 x) (hV : pkind M x = 15 → plpV M x) (hd : 2 ≤ d) : zM l d D b0 mX12_layParts [.ref o, .int (nI n), .int x] g (rv o f M) (zEx (some (.int (nI (playParts M n x).1))) g (rv o f ((playParts M n x).2))) := by
  refine zM.start zmd_X12_layParts (Nat.le_of_ble_eq_true rfl) ⟨rfl, rfl, rfl, trivial⟩ [some (.ref o), some (.int (nI n)), some (.int x), none, none, none] rfl ?_
  refine z_iload1 dX12_layParts_0 ?_
  refine z_istore3 dX12_layParts_1 ?_
  refine z_aload0 dX12_layParts_2 ?_
  refine z_iload2 dX12_layParts_3 ?_
  refine z_callVi zmd_X12_kind rfl (by decide) zl_RX12_134 zin_X12_kind zsel_X12_kind (R_X12_kind (d := d - 1) hW _ hx) hW.o rfl rfl (by omega) rfl dX12_layParts_4 ?_
  refine z_bipush (v := 15) dX12_layParts_7 (by decide) ?_
  refine z_icmp_ne (tgt := 130) dX12_layParts_9 (by decide) (fun c9 => ?_) (fun c9 => ?_)
  · show zS _ _ _ _ _ _ _ 130 _ _ _ _ _
    refine z_aload0 dX12_layParts_130 ?_
    refine z_iload2 dX12_layParts_131 ?_
    refine z_callVi zmd_X12_kind rfl (by decide) zl_RX12_134 zin_X12_kind zsel_X12_kind (R_X12_kind (d := d - 1) hW _ hx) hW.o rfl rfl (by omega) rfl dX12_layParts_132 ?_
    refine z_callSi zmd_X12_parts zl_RX12_144 zst_X12_parts (R_X12_parts (d := d - 1) hW _) rfl rfl (by omega) rfl dX12_layParts_135 ?_
    refine z_istore4 dX12_layParts_138 ?_
    have hp4 := pparts_n (pkind M x)
    have hp5 := hp4.1
    rw [hp4.2]
    refine Rl_X12_layParts2 hW x (nI n) hx hd _ (plpP x (tn (pparts (pkind M x))) (n, M)) (tn (pparts (pkind M x))) n M none (by omega) (by omega) rfl (fun x4 x5 => ?_)
    rw [show playParts M n x = _ from if_neg c9]
    show zS _ _ _ _ _ _ _ 168 _ _ _ _ _
    refine z_iload3 dX12_layParts_168 ?_
    refine z_iret dX12_layParts_169 rfl ?_
    exact ⟨rfl, rfl, rfl, rfl, rfl⟩
  · show zS _ _ _ _ _ _ _ 12 _ _ _ _ _
    refine z_aload0 dX12_layParts_12 ?_
    refine z_getRs fl_RX12_47 (by decide) hW.o (hW.r 11 rfl) dX12_layParts_13 ?_
    refine z_iload3 dX12_layParts_16 ?_
    refine z_bipush (v := (-125)) dX12_layParts_17 (by decide) ?_
    refine zr_st hW (i := 11) rfl (by decide) (by decide) (rfl : nI n = nI n) (by omega) dX12_layParts_19 ?_
    refine z_iinc3 (y := 1) dX12_layParts_20 (by decide) ?_
    refine z_bipush (v := 6) dX12_layParts_23 (by decide) ?_
    refine z_istore4 dX12_layParts_25 ?_
    have hV2 := (hV c9).s n (-125)
    have h6 : (6 : Int32) = nI 7 - 1 := rfl
    rw [h6, nI_1]
    refine Rl_X12_layParts1 hW x (nI n) hd _ (plpC x 7 (plp1 (n, M) (-125))) 7 (n + 1) _ none (by decide) (by omega) hV2 rfl (fun x4 x5 hV3 hq => ?_)
    rw [show playParts M n x = _ from if_pos c9]
    generalize plpC x 7 (plp1 (n, M) (-125)) = q at hV3 hq ⊢
    show zS _ _ _ _ _ _ _ 114 _ _ _ _ _
    refine z_aload0 dX12_layParts_114 ?_
    refine z_getRs fl_RX12_47 (by decide) hW.o (hW.r 11 rfl) dX12_layParts_115 ?_
    refine z_iload3 dX12_layParts_118 ?_
    refine z_aload0 dX12_layParts_119 ?_
    refine z_iload2 dX12_layParts_120 ?_
    refine z_iconst (v := 1) dX12_layParts_121 (by decide) ?_
    refine z_callVi zmd_X12_part rfl (by decide) zl_RX12_165 zin_X12_part zsel_X12_part (R_X12_part (d := d - 1) hW _ hx _ (⟨by decide, by decide⟩ : iv 4 (1 : Int32))) hW.o rfl rfl (by omega) rfl dX12_layParts_122 ?_
    refine zr_st hW (i := 11) rfl (by decide) (by decide) (rfl : nI q.1 = nI q.1) (by omega) dX12_layParts_125 ?_
    refine z_iload3 dX12_layParts_126 ?_
    refine z_iconst (v := 1) dX12_layParts_127 (by decide) ?_
    refine z_iadd dX12_layParts_128 ?_
    show zS _ _ _ _ _ _ _ 129 _ _ _ _ _
    refine z_iret dX12_layParts_129 rfl ?_
    rw [nI_1]
    exact ⟨rfl, rfl, rfl, rfl, rfl⟩
def pllS (M : zI) (x : Int32) : Int32 := if x < 0 then -x else if pkind M x = 1 then 97 + parg M x else psignOf (pkind M x)
def pllN (M : zI) (n : Nat) (x : Int32) : Nat × zI := if ¬ x < 0 ∧ ¬ pnamed M x = -9 then (n + 1, zup M 13 n (pnamed M x)) else (n, M)
def pllB (M : zI) (left : Nat) (x : Int32) : Nat × zI := if ¬ x < 0 ∧ ¬ pkind M x = 1 then playParts M left x else (left, M)
def pllA (M : zI) (n : Nat) (x : Int32) : Nat × zI := pllN (zup M 13 n (pllS M x)) (n + 1) x
def pll : Nat → Nat → Nat → Int32 → zI → Nat × zI
  | 0, n, _, _, M => (n, M)
  | _ + 1, n, 0, _, M => (n, M)
  | j + 1, n, left + 1, b, M => if ¬ M 12 left < 0 ∧ pkind M (M 12 left) = 0 then pll j (playNum M n (parg M (M 12 left)) b).1 left 1 (playNum M n (parg M (M 12 left)) b).2
      else pll j (pllA M n (M 12 left)).1 (pllB (pllA M n (M 12 left)).2 left (M 12 left)).1 0 (pllB (pllA M n (M 12 left)).2 left (M 12 left)).2
def pllV : Nat → Nat → Nat → Int32 → zI → Prop
  | 0, _, _, _, _ => False
  | _ + 1, _, 0, _, _ => True
  | j + 1, n, left + 1, b, M => n < 390 ∧ left ≤ 370 ∧ (¬ M 12 left < 0 → iv 65000 (M 12 left) ∧ (pkind M (M 12 left) = 15 → plpV M (M 12 left))) ∧
      (¬ M 12 left < 0 ∧ pkind M (M 12 left) = 0 → pllV j (playNum M n (parg M (M 12 left)) b).1 left 1 (playNum M n (parg M (M 12 left)) b).2) ∧
      (¬ (¬ M 12 left < 0 ∧ pkind M (M 12 left) = 0) → pllV j (pllA M n (M 12 left)).1 (pllB (pllA M n (M 12 left)).2 left (M 12 left)).1 0 (pllB (pllA M n (M 12 left)).2 left (M 12 left)).2)
theorem pclA_r {M : zI} {w : Int32} {r a : Nat} {v : Int32} (hr : r ≠ 1) : ∀ {k : Nat} {c : Int32}, pclA (zup M r a v) w k c = pclA M w k c := by
  intro k
  induction k with
  | zero => intro c; rfl
  | succ k ih =>
    intro c
    unfold pclA
    rw [zup_r (show (1 : Nat) ≠ r from fun q => hr q.symm), ih]
theorem pclV_r {M : zI} {r a : Nat} {v : Int32} (hr : r ≠ 1) : ∀ {k : Nat} {c : Int32}, pclV (zup M r a v) k c ↔ pclV M k c := by
  intro k
  induction k with
  | zero => intro c; exact Iff.rfl
  | succ k ih =>
    intro c
    unfold pclV
    rw [zup_r (show (1 : Nat) ≠ r from fun q => hr q.symm), ih]
theorem plpV.r {M : zI} {x : Int32} {r : Nat} (h : plpV M x) (hr : r ≠ 1) (a : Nat) (v : Int32) : plpV (zup M r a v) x := by
  refine ⟨h.1, ?_, fun w => ?_⟩
  · unfold pclOk
    rw [zup_r (show (1 : Nat) ≠ r from fun q => hr q.symm)]
    exact (pclV_r hr).mpr h.2.1
  · unfold pclause
    rw [pclA_r hr, zup_r (show (1 : Nat) ≠ r from fun q => hr q.symm)]
    exact h.2.2 w
set_option maxRecDepth 20000 in
theorem Rt_X12_layListing_149 {l : Launch} {d : Nat} {D : zD} {b0 : Nat} {g : zG} {f M : zI} {o : Nat} (hW : RW b0 g o) (n left : Nat) (x : Int32) (Q : Nat → Nat → zKT → Prop) (hl : left ≤ 370) (hx : ¬ x < 0 → iv 65000 x ∧ (pkind M x = 15 → plpV M x)) (hd : 3 ≤ d) (kk : zS l d D b0 mX12_layListing 0 0 18 [some (.ref o), some (.int (nI n)), some (.int (nI (pllB M left x).1)), some (.int 0), some (.int x)] [] g (rv o f (pllB M left x).2) Q) : zS l d D b0 mX12_layListing 0 0 149 [some (.ref o), some (.int (nI n)), some (.int (nI left)), some (.int 0), some (.int x)] [] g (rv o f M) Q := by
  show zS _ _ _ _ _ _ _ 149 _ _ _ _ _
  refine z_iload4 dX12_layListing_149 ?_
  refine z_if_lt (tgt := 174) dX12_layListing_151 (by decide) (fun c151 => ?_) (fun c151 => ?_)
  · show zS _ _ _ _ _ _ _ 174 _ _ _ _ _
    refine z_iload2 dX12_layListing_174 ?_
    refine z_istore2 dX12_layListing_175 ?_
    refine z_goto (tgt := 18) dX12_layListing_176 (by decide) ?_
    first
      | (rw [show pllB M left x = (left, M) from if_neg (fun q => q.1 (by assumption))] at kk; exact kk)
      | (rw [show pllB M left x = (left, M) from if_neg (fun q => q.2 (by assumption))] at kk; exact kk)
      | (rw [show pllB M left x = playParts M left x from if_pos ⟨by assumption, by assumption⟩] at kk; exact kk)
  · show zS _ _ _ _ _ _ _ 154 _ _ _ _ _
    refine z_aload0 dX12_layListing_154 ?_
    refine z_iload4 dX12_layListing_155 ?_
    refine z_callVi zmd_X12_kind rfl (by decide) zl_RX12_134 zin_X12_kind zsel_X12_kind (R_X12_kind (d := d - 1) hW _ (hx c151).1) hW.o rfl rfl (by omega) rfl dX12_layListing_157 ?_
    refine z_iconst (v := 1) dX12_layListing_160 (by decide) ?_
    refine z_icmp_eq (tgt := 174) dX12_layListing_161 (by decide) (fun c161 => ?_) (fun c161 => ?_)
    · show zS _ _ _ _ _ _ _ 174 _ _ _ _ _
      refine z_iload2 dX12_layListing_174 ?_
      refine z_istore2 dX12_layListing_175 ?_
      refine z_goto (tgt := 18) dX12_layListing_176 (by decide) ?_
      first
        | (rw [show pllB M left x = (left, M) from if_neg (fun q => q.1 (by assumption))] at kk; exact kk)
        | (rw [show pllB M left x = (left, M) from if_neg (fun q => q.2 (by assumption))] at kk; exact kk)
        | (rw [show pllB M left x = playParts M left x from if_pos ⟨by assumption, by assumption⟩] at kk; exact kk)
    · show zS _ _ _ _ _ _ _ 164 _ _ _ _ _
      refine z_aload0 dX12_layListing_164 ?_
      refine z_iload2 dX12_layListing_165 ?_
      refine z_iload4 dX12_layListing_166 ?_
      refine z_callVi zmd_X12_layParts rfl (by decide) zl_RX12_178 zin_X12_layParts zsel_X12_layParts (R_X12_layParts (d := d - 1) hW _ _ hl (hx c151).1 (hx c151).2 (by omega)) hW.o rfl rfl (by omega) rfl dX12_layListing_168 ?_
      refine z_goto (tgt := 175) dX12_layListing_171 (by decide) ?_
      show zS _ _ _ _ _ _ _ 175 _ _ _ _ _
      refine z_istore2 dX12_layListing_175 ?_
      refine z_goto (tgt := 18) dX12_layListing_176 (by decide) ?_
      first
        | (rw [show pllB M left x = (left, M) from if_neg (fun q => q.1 (by assumption))] at kk; exact kk)
        | (rw [show pllB M left x = (left, M) from if_neg (fun q => q.2 (by assumption))] at kk; exact kk)
        | (rw [show pllB M left x = playParts M left x from if_pos ⟨by assumption, by assumption⟩] at kk; exact kk)
set_option maxRecDepth 20000 in
theorem Rt_X12_layListing_118 {l : Launch} {d : Nat} {D : zD} {b0 : Nat} {g : zG} {f M : zI} {o : Nat} (hW : RW b0 g o) (n left : Nat) (x : Int32) (Q : Nat → Nat → zKT → Prop) (hn : n < 399) (hl : left ≤ 370) (hx : ¬ x < 0 → iv 65000 x ∧ (pkind M x = 15 → plpV M x)) (hd : 3 ≤ d) (kk : zS l d D b0 mX12_layListing 0 0 18 [some (.ref o), some (.int (nI (pllN M n x).1)), some (.int (nI (pllB (pllN M n x).2 left x).1)), some (.int 0), some (.int x)] [] g (rv o f (pllB (pllN M n x).2 left x).2) Q) : zS l d D b0 mX12_layListing 0 0 118 [some (.ref o), some (.int (nI n)), some (.int (nI left)), some (.int 0), some (.int x)] [] g (rv o f M) Q := by
  show zS _ _ _ _ _ _ _ 118 _ _ _ _ _
  refine z_iload4 dX12_layListing_118 ?_
  refine z_if_lt (tgt := 149) dX12_layListing_120 (by decide) (fun c120 => ?_) (fun c120 => ?_)
  · show zS _ _ _ _ _ _ _ 149 _ _ _ _ _
    first
      | (rw [show pllN M n x = (n, M) from if_neg (fun q => q.1 (by assumption))] at kk; exact Rt_X12_layListing_149 hW n left x Q hl hx hd kk)
      | (rw [show pllN M n x = (n, M) from if_neg (fun q => q.2 (by assumption))] at kk; exact Rt_X12_layListing_149 hW n left x Q hl hx hd kk)
      | (rw [show pllN M n x = (n + 1, zup M 13 n (pnamed M x)) from if_pos ⟨by assumption, by assumption⟩] at kk; rw [nI_1]; exact Rt_X12_layListing_149 hW (n + 1) left x Q hl (fun h => ⟨(hx h).1, fun h2 => ((hx h).2 h2).r (by decide) _ _⟩) hd kk)
  · show zS _ _ _ _ _ _ _ 123 _ _ _ _ _
    refine z_aload0 dX12_layListing_123 ?_
    refine z_iload4 dX12_layListing_124 ?_
    refine z_callVi zmd_X12_namedBy rfl (by decide) zl_RX12_175 zin_X12_namedBy zsel_X12_namedBy (R_X12_namedBy (d := d - 1) hW _ (hx c120).1 (by omega)) hW.o rfl rfl (by omega) rfl dX12_layListing_126 ?_
    refine z_bipush (v := (-9)) dX12_layListing_129 (by decide) ?_
    refine z_icmp_eq (tgt := 149) dX12_layListing_131 (by decide) (fun c131 => ?_) (fun c131 => ?_)
    · show zS _ _ _ _ _ _ _ 149 _ _ _ _ _
      first
        | (rw [show pllN M n x = (n, M) from if_neg (fun q => q.1 (by assumption))] at kk; exact Rt_X12_layListing_149 hW n left x Q hl hx hd kk)
        | (rw [show pllN M n x = (n, M) from if_neg (fun q => q.2 (by assumption))] at kk; exact Rt_X12_layListing_149 hW n left x Q hl hx hd kk)
        | (rw [show pllN M n x = (n + 1, zup M 13 n (pnamed M x)) from if_pos ⟨by assumption, by assumption⟩] at kk; rw [nI_1]; exact Rt_X12_layListing_149 hW (n + 1) left x Q hl (fun h => ⟨(hx h).1, fun h2 => ((hx h).2 h2).r (by decide) _ _⟩) hd kk)
    · show zS _ _ _ _ _ _ _ 134 _ _ _ _ _
      refine z_aload0 dX12_layListing_134 ?_
      refine z_getRs fl_RX12_50 (by decide) hW.o (hW.r 12 rfl) dX12_layListing_135 ?_
      refine z_iload1 dX12_layListing_138 ?_
      refine z_aload0 dX12_layListing_139 ?_
      refine z_iload4 dX12_layListing_140 ?_
      refine z_callVi zmd_X12_namedBy rfl (by decide) zl_RX12_175 zin_X12_namedBy zsel_X12_namedBy (R_X12_namedBy (d := d - 1) hW _ (hx c120).1 (by omega)) hW.o rfl rfl (by omega) rfl dX12_layListing_142 ?_
      refine zr_st hW (i := 12) rfl (by decide) (by decide) (rfl : nI n = nI n) (by omega) dX12_layListing_145 ?_
      refine z_iinc1 (y := 1) dX12_layListing_146 (by decide) ?_
      first
        | (rw [show pllN M n x = (n, M) from if_neg (fun q => q.1 (by assumption))] at kk; exact Rt_X12_layListing_149 hW n left x Q hl hx hd kk)
        | (rw [show pllN M n x = (n, M) from if_neg (fun q => q.2 (by assumption))] at kk; exact Rt_X12_layListing_149 hW n left x Q hl hx hd kk)
        | (rw [show pllN M n x = (n + 1, zup M 13 n (pnamed M x)) from if_pos ⟨by assumption, by assumption⟩] at kk; rw [nI_1]; exact Rt_X12_layListing_149 hW (n + 1) left x Q hl (fun h => ⟨(hx h).1, fun h2 => ((hx h).2 h2).r (by decide) _ _⟩) hd kk)
set_option maxRecDepth 20000 in
theorem Rt_X12_layListing_65 {l : Launch} {d : Nat} {D : zD} {b0 : Nat} {g : zG} {f M : zI} {o : Nat} (hW : RW b0 g o) (n left : Nat) (b x : Int32) (Q : Nat → Nat → zKT → Prop) (hn : n < 398) (hl : left ≤ 370) (hx : ¬ x < 0 → iv 65000 x ∧ (pkind M x = 15 → plpV M x)) (hd : 3 ≤ d) (kk : zS l d D b0 mX12_layListing 0 0 18 [some (.ref o), some (.int (nI (pllA M n x).1)), some (.int (nI (pllB (pllA M n x).2 left x).1)), some (.int 0), some (.int x)] [] g (rv o f (pllB (pllA M n x).2 left x).2) Q) : zS l d D b0 mX12_layListing 0 0 65 [some (.ref o), some (.int (nI n)), some (.int (nI left)), some (.int b), some (.int x)] [] g (rv o f M) Q := by
  show zS _ _ _ _ _ _ _ 65 _ _ _ _ _
  refine z_iconst (v := 0) dX12_layListing_65 (by decide) ?_
  refine z_istore3 dX12_layListing_66 ?_
  refine z_aload0 dX12_layListing_67 ?_
  refine z_getRs fl_RX12_50 (by decide) hW.o (hW.r 12 rfl) dX12_layListing_68 ?_
  refine z_iload1 dX12_layListing_71 ?_
  refine z_iload4 dX12_layListing_72 ?_
  refine z_if_ge (tgt := 83) dX12_layListing_74 (by decide) (fun c74 => ?_) (fun c74 => ?_)
  · show zS _ _ _ _ _ _ _ 83 _ _ _ _ _
    refine z_aload0 dX12_layListing_83 ?_
    refine z_iload4 dX12_layListing_84 ?_
    refine z_callVi zmd_X12_kind rfl (by decide) zl_RX12_134 zin_X12_kind zsel_X12_kind (R_X12_kind (d := d - 1) hW _ (hx c74).1) hW.o rfl rfl (by omega) rfl dX12_layListing_86 ?_
    refine z_iconst (v := 1) dX12_layListing_89 (by decide) ?_
    refine z_icmp_ne (tgt := 105) dX12_layListing_90 (by decide) (fun c90 => ?_) (fun c90 => ?_)
    · show zS _ _ _ _ _ _ _ 105 _ _ _ _ _
      refine z_aload0 dX12_layListing_105 ?_
      refine z_iload4 dX12_layListing_106 ?_
      refine z_callVi zmd_X12_kind rfl (by decide) zl_RX12_134 zin_X12_kind zsel_X12_kind (R_X12_kind (d := d - 1) hW _ (hx c74).1) hW.o rfl rfl (by omega) rfl dX12_layListing_108 ?_
      refine z_callSi zmd_X12_signOf zl_RX12_172 zst_X12_signOf (R_X12_signOf (d := d - 1) hW _) rfl rfl (by omega) rfl dX12_layListing_111 ?_
      refine zr_st hW (i := 12) rfl (by decide) (by decide) (rfl : nI n = nI n) (by omega) dX12_layListing_114 ?_
      refine z_iinc1 (y := 1) dX12_layListing_115 (by decide) ?_
      have hx2 : ∀ v, ¬ x < 0 → iv 65000 x ∧ (pkind (zup M 13 n v) x = 15 → plpV (zup M 13 n v) x) := fun v h => ⟨(hx h).1, fun h2 => ((hx h).2 h2).r (by decide) _ _⟩
      rw [nI_1]
      unfold pllA at kk
      first
        | (rw [show pllS M x = -x from if_pos (by first | assumption | exact Decidable.not_not.mp (by assumption))] at kk; exact Rt_X12_layListing_118 hW (n + 1) left x Q (by omega) hl (hx2 _) hd kk)
        | (rw [show pllS M x = 97 + parg M x from (if_neg (by assumption)).trans (if_pos (by assumption))] at kk; exact Rt_X12_layListing_118 hW (n + 1) left x Q (by omega) hl (hx2 _) hd kk)
        | (rw [show pllS M x = psignOf (pkind M x) from (if_neg (by assumption)).trans (if_neg (by assumption))] at kk; exact Rt_X12_layListing_118 hW (n + 1) left x Q (by omega) hl (hx2 _) hd kk)
    · show zS _ _ _ _ _ _ _ 93 _ _ _ _ _
      refine z_bipush (v := 97) dX12_layListing_93 (by decide) ?_
      refine z_aload0 dX12_layListing_95 ?_
      refine z_iload4 dX12_layListing_96 ?_
      refine z_callVi zmd_X12_argument rfl (by decide) zl_RX12_137 zin_X12_argument zsel_X12_argument (R_X12_argument (d := d - 1) hW _ (hx c74).1) hW.o rfl rfl (by omega) rfl dX12_layListing_98 ?_
      refine z_iadd dX12_layListing_101 ?_
      refine z_goto (tgt := 114) dX12_layListing_102 (by decide) ?_
      show zS _ _ _ _ _ _ _ 114 _ _ _ _ _
      refine zr_st hW (i := 12) rfl (by decide) (by decide) (rfl : nI n = nI n) (by omega) dX12_layListing_114 ?_
      refine z_iinc1 (y := 1) dX12_layListing_115 (by decide) ?_
      have hx2 : ∀ v, ¬ x < 0 → iv 65000 x ∧ (pkind (zup M 13 n v) x = 15 → plpV (zup M 13 n v) x) := fun v h => ⟨(hx h).1, fun h2 => ((hx h).2 h2).r (by decide) _ _⟩
      rw [nI_1]
      unfold pllA at kk
      first
        | (rw [show pllS M x = -x from if_pos (by first | assumption | exact Decidable.not_not.mp (by assumption))] at kk; exact Rt_X12_layListing_118 hW (n + 1) left x Q (by omega) hl (hx2 _) hd kk)
        | (rw [show pllS M x = 97 + parg M x from (if_neg (by assumption)).trans (if_pos (by assumption))] at kk; exact Rt_X12_layListing_118 hW (n + 1) left x Q (by omega) hl (hx2 _) hd kk)
        | (rw [show pllS M x = psignOf (pkind M x) from (if_neg (by assumption)).trans (if_neg (by assumption))] at kk; exact Rt_X12_layListing_118 hW (n + 1) left x Q (by omega) hl (hx2 _) hd kk)
  · show zS _ _ _ _ _ _ _ 77 _ _ _ _ _
    refine z_iload4 dX12_layListing_77 ?_
    refine z_ineg dX12_layListing_79 ?_
    refine z_goto (tgt := 114) dX12_layListing_80 (by decide) ?_
    show zS _ _ _ _ _ _ _ 114 _ _ _ _ _
    refine zr_st hW (i := 12) rfl (by decide) (by decide) (rfl : nI n = nI n) (by omega) dX12_layListing_114 ?_
    refine z_iinc1 (y := 1) dX12_layListing_115 (by decide) ?_
    have hx2 : ∀ v, ¬ x < 0 → iv 65000 x ∧ (pkind (zup M 13 n v) x = 15 → plpV (zup M 13 n v) x) := fun v h => ⟨(hx h).1, fun h2 => ((hx h).2 h2).r (by decide) _ _⟩
    rw [nI_1]
    unfold pllA at kk
    first
      | (rw [show pllS M x = -x from if_pos (by first | assumption | exact Decidable.not_not.mp (by assumption))] at kk; exact Rt_X12_layListing_118 hW (n + 1) left x Q (by omega) hl (hx2 _) hd kk)
      | (rw [show pllS M x = 97 + parg M x from (if_neg (by assumption)).trans (if_pos (by assumption))] at kk; exact Rt_X12_layListing_118 hW (n + 1) left x Q (by omega) hl (hx2 _) hd kk)
      | (rw [show pllS M x = psignOf (pkind M x) from (if_neg (by assumption)).trans (if_neg (by assumption))] at kk; exact Rt_X12_layListing_118 hW (n + 1) left x Q (by omega) hl (hx2 _) hd kk)
set_option maxRecDepth 20000 in
theorem Rl_X12_layListing {l : Launch} {d : Nat} {D : zD} {b0 : Nat} {g : zG} {f : zI} {o : Nat} (hW : RW b0 g o) (hd : 3 ≤ d) : ∀ (j n left : Nat) (b : Int32) (M : zI) (y4 : Option Value), pllV j n left b M → zS l d D b0 mX12_layListing 0 0 18 [some (.ref o), some (.int (nI n)), some (.int (nI left)), some (.int b), y4] [] g (rv o f M) (zq D b0 (zEx (some (.int (nI (pll j n left b M).1))) g (rv o f (pll j n left b M).2))) := by
  intro j
  induction j with
  | zero => intro n left b M y4 hV; exact absurd hV id
  | succ j ih =>
    intro n left b M y4 hV
    cases left with
    | zero =>
      refine z_iload2 dX12_layListing_18 ?_
      refine z_if_le (tgt := 179) dX12_layListing_19 (by decide) (fun c19 => ?_) (fun c19 => absurd c19 (by decide))
      refine z_iload1 dX12_layListing_179 ?_
      refine z_iret dX12_layListing_180 rfl ?_
      exact ⟨rfl, rfl, rfl, rfl, rfl⟩
    | succ left =>
      obtain ⟨hn, hl, hx, hV1, hV2⟩ := hV
      refine z_iload2 dX12_layListing_18 ?_
      refine z_if_le (tgt := 179) dX12_layListing_19 (by decide) (fun c19 => absurd (nI_lt (a := 0) (by omega) (by omega)) c19) (fun c19 => ?_)
      refine z_iinc2 (y := (-1)) dX12_layListing_22 (by decide) ?_
      rw [pk_m1]
      show zS _ _ _ _ _ _ _ 25 _ _ _ _ _
      refine z_aload0 dX12_layListing_25 ?_
      refine z_getRs fl_RX12_47 (by decide) hW.o (hW.r 11 rfl) dX12_layListing_26 ?_
      refine z_iload2 dX12_layListing_29 ?_
      refine zr_ld hW (i := 11) rfl (by decide) (by decide) (rfl : nI left = nI left) (by omega) dX12_layListing_30 ?_
      refine z_istore4 dX12_layListing_31 ?_
      refine z_iload4 dX12_layListing_33 ?_
      refine z_if_lt (tgt := 65) dX12_layListing_35 (by decide) (fun c35 => ?_) (fun c35 => ?_)
      · show zS _ _ _ _ _ _ _ 65 _ _ _ _ _
        have hno : ¬ (¬ M 12 left < 0 ∧ pkind M (M 12 left) = 0) := by first | exact fun q => q.1 c35 | exact fun q => c44 q.2
        refine Rt_X12_layListing_65 hW n left b (M 12 left) _ (by omega) hl hx hd ?_
        rw [show pll (j + 1) n (left + 1) b M = _ from if_neg hno]
        exact ih _ _ _ _ _ (hV2 hno)
      · show zS _ _ _ _ _ _ _ 38 _ _ _ _ _
        refine z_aload0 dX12_layListing_38 ?_
        refine z_iload4 dX12_layListing_39 ?_
        refine z_callVi zmd_X12_kind rfl (by decide) zl_RX12_134 zin_X12_kind zsel_X12_kind (R_X12_kind (d := d - 1) hW _ (hx c35).1) hW.o rfl rfl (by omega) rfl dX12_layListing_41 ?_
        refine z_if_ne (tgt := 65) dX12_layListing_44 (by decide) (fun c44 => ?_) (fun c44 => ?_)
        · show zS _ _ _ _ _ _ _ 65 _ _ _ _ _
          have hno : ¬ (¬ M 12 left < 0 ∧ pkind M (M 12 left) = 0) := by first | exact fun q => q.1 c35 | exact fun q => c44 q.2
          refine Rt_X12_layListing_65 hW n left b (M 12 left) _ (by omega) hl hx hd ?_
          rw [show pll (j + 1) n (left + 1) b M = _ from if_neg hno]
          exact ih _ _ _ _ _ (hV2 hno)
        · show zS _ _ _ _ _ _ _ 47 _ _ _ _ _
          refine z_aload0 dX12_layListing_47 ?_
          refine z_iload1 dX12_layListing_48 ?_
          refine z_aload0 dX12_layListing_49 ?_
          refine z_iload4 dX12_layListing_50 ?_
          refine z_callVi zmd_X12_argument rfl (by decide) zl_RX12_137 zin_X12_argument zsel_X12_argument (R_X12_argument (d := d - 1) hW _ (hx c35).1) hW.o rfl rfl (by omega) rfl dX12_layListing_52 ?_
          refine z_iload3 dX12_layListing_55 ?_
          refine z_callVi zmd_X12_layNumber rfl (by decide) zl_RX12_168 zin_X12_layNumber zsel_X12_layNumber (R_X12_layNumber (d := d - 1) hW _ _ _ (by omega)) hW.o rfl rfl (by omega) rfl dX12_layListing_56 ?_
          refine z_istore1 dX12_layListing_59 ?_
          refine z_iconst (v := 1) dX12_layListing_60 (by decide) ?_
          refine z_istore3 dX12_layListing_61 ?_
          refine z_goto (tgt := 176) dX12_layListing_62 (by decide) ?_
          refine z_goto (tgt := 18) dX12_layListing_176 (by decide) ?_
          rw [show pll (j + 1) n (left + 1) b M = _ from if_pos ⟨c35, c44⟩]
          exact ih _ _ _ _ _ (hV1 ⟨c35, c44⟩)
def pllf : Nat := 1000
def play0 (M : zI) : zI := zup M 12 0 (M 2 0)
def play (M : zI) : Nat × zI := pll pllf 0 1 0 (play0 M)
def plisting (M : zI) (x : Int32) : Int32 × zI := if x < 0 then (-1, M) else if M 2 0 = -9 then (-2, M) else (if x < nI (play M).1 then (play M).2 13 (tn x) else -9, (play M).2)
set_option maxRecDepth 20000 in
theorem R_X12_layListing {l : Launch} {d : Nat} {D : zD} {b0 : Nat} {g : zG} {f M : zI} {o : Nat} (hW : RW b0 g o) (hV : pllV pllf 0 1 0 (play0 M)) (hd : 3 ≤ d) : zM l d D b0 mX12_layListing [.ref o] g (rv o f M) (zEx (some (.int (nI (play M).1))) g (rv o f ((play M).2))) := by
  refine zM.start zmd_X12_layListing (Nat.le_of_ble_eq_true rfl) ⟨rfl, trivial⟩ [some (.ref o), none, none, none, none] rfl ?_
  refine z_iconst (v := 0) dX12_layListing_0 (by decide) ?_
  refine z_istore1 dX12_layListing_1 ?_
  refine z_iconst (v := 1) dX12_layListing_2 (by decide) ?_
  refine z_istore2 dX12_layListing_3 ?_
  refine z_iconst (v := 0) dX12_layListing_4 (by decide) ?_
  refine z_istore3 dX12_layListing_5 ?_
  refine z_aload0 dX12_layListing_6 ?_
  refine z_getRs fl_RX12_47 (by decide) hW.o (hW.r 11 rfl) dX12_layListing_7 ?_
  refine z_iconst (v := 0) dX12_layListing_10 (by decide) ?_
  refine z_aload0 dX12_layListing_11 ?_
  refine z_getRs fl_RX12_14 (by decide) hW.o (hW.r 1 rfl) dX12_layListing_12 ?_
  show zS _ _ _ _ _ _ _ 15 _ _ _ _ _
  refine z_iconst (v := 0) dX12_layListing_15 (by decide) ?_
  refine zr_ld hW (i := 1) rfl (by decide) (by decide) (ixC 0) (by decide) dX12_layListing_16 ?_
  refine zr_st hW (i := 11) rfl (by decide) (by decide) (ixC 0) (by decide) dX12_layListing_17 ?_
  exact Rl_X12_layListing hW hd pllf 0 1 0 _ none hV
set_option maxRecDepth 20000 in
theorem R_X12_listing {l : Launch} {d : Nat} {D : zD} {b0 : Nat} {g : zG} {f M : zI} {o : Nat} (hW : RW b0 g o) (x : Int32) (hV : ¬ x < 0 → ¬ M 2 0 = -9 → pllV pllf 0 1 0 (play0 M) ∧ (play M).1 ≤ 400) (hd : 4 ≤ d) : zM l d D b0 mX12_listing [.ref o, .int x] g (rv o f M) (zEx (some (.int ((plisting M x).1))) g (rv o f ((plisting M x).2))) := by
  have hPar := fun (h : pllV pllf 0 1 0 (play0 M)) => R_X12_layListing (l := l) (d := d - 1) (D := D) (f := f) hW h (by omega)
  unfold plisting
  generalize play M = P at hPar hV ⊢
  refine zM.start zmd_X12_listing (Nat.le_of_ble_eq_true rfl) ⟨rfl, rfl, trivial⟩ [some (.ref o), some (.int x)] rfl ?_
  refine z_iload1 dX12_listing_0 ?_
  refine z_if_ge (tgt := 6) dX12_listing_1 (by decide) (fun c1 => ?_) (fun c1 => ?_)
  · show zS _ _ _ _ _ _ _ 6 _ _ _ _ _
    have c1n : ¬ x < 0 := by first | exact c1 | exact fun q => c1 q
    refine z_aload0 dX12_listing_6 ?_
    refine z_getRs fl_RX12_14 (by decide) hW.o (hW.r 1 rfl) dX12_listing_7 ?_
    refine z_iconst (v := 0) dX12_listing_10 (by decide) ?_
    refine zr_ld hW (i := 1) rfl (by decide) (by decide) (ixC 0) (by decide) dX12_listing_11 ?_
    refine z_bipush (v := (-9)) dX12_listing_12 (by decide) ?_
    refine z_icmp_ne (tgt := 20) dX12_listing_14 (by decide) (fun c14 => ?_) (fun c14 => ?_)
    · show zS _ _ _ _ _ _ _ 20 _ _ _ _ _
      refine z_iload1 dX12_listing_20 ?_
      refine z_aload0 dX12_listing_21 ?_
      refine z_callVi zmd_X12_layListing rfl (by decide) zl_RX12_181 zin_X12_layListing zsel_X12_layListing (hPar (hV c1n c14).1) hW.o rfl rfl (by omega) rfl dX12_listing_22 ?_
      refine z_icmp_ge (tgt := 37) dX12_listing_25 (by decide) (fun c25 => ?_) (fun c25 => ?_)
      · show zS _ _ _ _ _ _ _ 37 _ _ _ _ _
        refine z_bipush (v := (-9)) dX12_listing_37 (by decide) ?_
        refine z_iret dX12_listing_39 rfl ?_
        rw [if_neg c1n, if_neg c14]
        first | (rw [if_pos c25]; exact ⟨rfl, rfl, rfl, rfl, rfl⟩) | (rw [if_neg c25]; exact ⟨rfl, rfl, rfl, rfl, rfl⟩)
      · show zS _ _ _ _ _ _ _ 28 _ _ _ _ _
        obtain ⟨q, hq1, hq2⟩ := nI_of c1n
        have hlt : tn x < 400 := by
          have h4 := (hV c1n c14).2
          rw [hq2] at c25 ⊢
          rw [tn_nI hq1]
          have := (nI_ltI hq1 (by omega)).mp c25
          omega
        have hxx : x = nI (tn x) := by rw [hq2, tn_nI hq1]
        refine z_aload0 dX12_listing_28 ?_
        refine z_getRs fl_RX12_50 (by decide) hW.o (hW.r 12 rfl) dX12_listing_29 ?_
        refine z_iload1 dX12_listing_32 ?_
        refine zr_ld hW (i := 12) rfl (by decide) (by decide) hxx hlt dX12_listing_33 ?_
        refine z_goto (tgt := 39) dX12_listing_34 (by decide) ?_
        show zS _ _ _ _ _ _ _ 39 _ _ _ _ _
        refine z_iret dX12_listing_39 rfl ?_
        rw [if_neg c1n, if_neg c14]
        first | (rw [if_pos c25]; exact ⟨rfl, rfl, rfl, rfl, rfl⟩) | (rw [if_neg c25]; exact ⟨rfl, rfl, rfl, rfl, rfl⟩)
    · show zS _ _ _ _ _ _ _ 17 _ _ _ _ _
      refine z_bipush (v := (-2)) dX12_listing_17 (by decide) ?_
      refine z_iret dX12_listing_19 rfl ?_
      rw [if_neg c1n, if_pos c14]
      exact ⟨rfl, rfl, rfl, rfl, rfl⟩
  · show zS _ _ _ _ _ _ _ 4 _ _ _ _ _
    refine z_iconst (v := (-1)) dX12_listing_4 (by decide) ?_
    refine z_iret dX12_listing_5 rfl ?_
    rw [if_pos (by first | exact c1 | exact Decidable.not_not.mp c1)]
    exact ⟨rfl, rfl, rfl, rfl, rfl⟩
