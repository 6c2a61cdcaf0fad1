set_option maxRecDepth 20000 in
theorem T_X12_isIn {l : Launch} {d : Nat} {D : zD} {b0 : Nat} {g : zG} {f : zI} {o : Nat} (x y z : Int32) : zM l d D b0 mX12_isIn [.int x, .int y, .int z] g f (zEx (some (.int (zB (¬ x < y ∧ ¬ z < x)))) g f) := by
  refine zM.start zmd_X12_isIn (Nat.le_of_ble_eq_true rfl) ⟨rfl, rfl, rfl, trivial⟩ [some (.int x), some (.int y), some (.int z)] rfl ?_
  refine z_iload0 dX12_isIn_0 ?_
  refine z_iload1 dX12_isIn_1 ?_
  refine z_icmp_lt (tgt := 14) dX12_isIn_2 (by decide) (fun c2 => ?_) (fun c2 => ?_)
  · show zS _ _ _ _ _ _ _ 14 _ _ _ _ _
    refine z_iconst (v := 0) dX12_isIn_14 (by decide) ?_
    refine z_iret dX12_isIn_15 rfl ?_
    refine ⟨?_, rfl, rfl, rfl, rfl⟩
    first | rw [zB1 ⟨‹¬ x < y›, ‹¬ z < x›⟩] | rw [zB0 (fun q => absurd ‹x < y› q.1)] | rw [zB0 (fun q => absurd ‹z < x› q.2)]
  · show zS _ _ _ _ _ _ _ 5 _ _ _ _ _
    refine z_iload0 dX12_isIn_5 ?_
    refine z_iload2 dX12_isIn_6 ?_
    refine z_icmp_gt (tgt := 14) dX12_isIn_7 (by decide) (fun c7 => ?_) (fun c7 => ?_)
    · show zS _ _ _ _ _ _ _ 14 _ _ _ _ _
      refine z_iconst (v := 0) dX12_isIn_14 (by decide) ?_
      refine z_iret dX12_isIn_15 rfl ?_
      refine ⟨?_, rfl, rfl, rfl, rfl⟩
      first | rw [zB1 ⟨‹¬ x < y›, ‹¬ z < x›⟩] | rw [zB0 (fun q => absurd ‹x < y› q.1)] | rw [zB0 (fun q => absurd ‹z < x› q.2)]
    · show zS _ _ _ _ _ _ _ 10 _ _ _ _ _
      refine z_iconst (v := 1) dX12_isIn_10 (by decide) ?_
      refine z_goto (tgt := 15) dX12_isIn_11 (by decide) ?_
      refine z_iret dX12_isIn_15 rfl ?_
      refine ⟨?_, rfl, rfl, rfl, rfl⟩
      first | rw [zB1 ⟨‹¬ x < y›, ‹¬ z < x›⟩] | rw [zB0 (fun q => absurd ‹x < y› q.1)] | rw [zB0 (fun q => absurd ‹z < x› q.2)]
set_option maxRecDepth 20000 in
theorem T_X12_kind {l : Launch} {d : Nat} {D : zD} {b0 : Nat} {g : zG} {f : zI} {o : Nat} (hW : RW b0 g o)(q : Nat) (hq : q < 65000) : zM l d D b0 mX12_kind [.ref o, .int (nI q)] g f (zEx (some (.int (f (o + 1) (5 * q)))) g f) := by
  refine zM.start zmd_X12_kind (Nat.le_of_ble_eq_true rfl) ⟨rfl, rfl, trivial⟩ [some (.ref o), some (.int (nI q))] rfl ?_
  refine z_aload0 dX12_kind_0 ?_
  refine z_getRs fl_RX12_8 (by decide) hW.o (hW.r 0 rfl) dX12_kind_1 ?_
  refine z_iconst (v := 5) dX12_kind_4 (by decide) ?_
  refine z_iload1 dX12_kind_5 ?_
  refine z_imul dX12_kind_6 ?_
  refine z_ialdE (hW.i 0 rfl) (hW.l 0 rfl) (show (5 : Int32) * nI q = nI (5 * q) from pk_mul 5 q) (by omega) (by decide) dX12_kind_7 ?_
  refine z_iret dX12_kind_8 rfl ?_
  exact ⟨rfl, rfl, rfl, rfl, rfl⟩
set_option maxRecDepth 20000 in
theorem T_X12_argument {l : Launch} {d : Nat} {D : zD} {b0 : Nat} {g : zG} {f : zI} {o : Nat} (hW : RW b0 g o)(q : Nat) (hq : q < 65000) : zM l d D b0 mX12_argument [.ref o, .int (nI q)] g f (zEx (some (.int (f (o + 1) (5 * q + 1)))) g f) := by
  refine zM.start zmd_X12_argument (Nat.le_of_ble_eq_true rfl) ⟨rfl, rfl, trivial⟩ [some (.ref o), some (.int (nI q))] rfl ?_
  refine z_aload0 dX12_argument_0 ?_
  refine z_getRs fl_RX12_8 (by decide) hW.o (hW.r 0 rfl) dX12_argument_1 ?_
  refine z_iconst (v := 5) dX12_argument_4 (by decide) ?_
  refine z_iload1 dX12_argument_5 ?_
  refine z_imul dX12_argument_6 ?_
  refine z_iconst (v := 1) dX12_argument_7 (by decide) ?_
  refine z_iadd dX12_argument_8 ?_
  refine z_ialdE (hW.i 0 rfl) (hW.l 0 rfl) (show (5 : Int32) * nI q + 1 = nI (5 * q + 1) from by rw [show (5 : Int32) = nI 5 from rfl, pk_mul, show (1 : Int32) = nI 1 from rfl, nI_add]) (by omega) (by decide) dX12_argument_9 ?_
  refine z_iret dX12_argument_10 rfl ?_
  exact ⟨rfl, rfl, rfl, rfl, rfl⟩
set_option maxRecDepth 20000 in
theorem T_X12_part {l : Launch} {d : Nat} {D : zD} {b0 : Nat} {g : zG} {f : zI} {o : Nat} (hW : RW b0 g o)(q : Nat) (hq : q < 65000)(k : Nat) (hk : k < 4) : zM l d D b0 mX12_part [.ref o, .int (nI q), .int (nI k)] g f (zEx (some (.int (f (o + 1) (5 * q + 1 + k)))) g f) := by
  refine zM.start zmd_X12_part (Nat.le_of_ble_eq_true rfl) ⟨rfl, rfl, rfl, trivial⟩ [some (.ref o), some (.int (nI q)), some (.int (nI k))] rfl ?_
  refine z_aload0 dX12_part_0 ?_
  refine z_getRs fl_RX12_8 (by decide) hW.o (hW.r 0 rfl) dX12_part_1 ?_
  refine z_iconst (v := 5) dX12_part_4 (by decide) ?_
  refine z_iload1 dX12_part_5 ?_
  refine z_imul dX12_part_6 ?_
  refine z_iconst (v := 1) dX12_part_7 (by decide) ?_
  refine z_iadd dX12_part_8 ?_
  refine z_iload2 dX12_part_9 ?_
  refine z_iadd dX12_part_10 ?_
  refine z_ialdE (hW.i 0 rfl) (hW.l 0 rfl) (show (5 : Int32) * nI q + 1 + nI k = nI (5 * q + 1 + k) from by rw [show (5 : Int32) = nI 5 from rfl, pk_mul, show (1 : Int32) = nI 1 from rfl, nI_add, nI_add]) (by omega) (by decide) dX12_part_11 ?_
  refine z_iret dX12_part_12 rfl ?_
  exact ⟨rfl, rfl, rfl, rfl, rfl⟩
set_option maxRecDepth 20000 in
theorem T_X12_of {l : Launch} {d : Nat} {D : zD} {b0 : Nat} {g : zG} {f : zI} {o : Nat} (hW : RW b0 g o)(q : Nat) (hq : q < 40000) (k : Nat) (hk : k < 7) : zM l d D b0 mX12_of [.ref o, .int (nI q), .int (nI k)] g f (zEx (some (.int (f (o + 4) (7 * q + k)))) g f) := by
  refine zM.start zmd_X12_of (Nat.le_of_ble_eq_true rfl) ⟨rfl, rfl, rfl, trivial⟩ [some (.ref o), some (.int (nI q)), some (.int (nI k))] rfl ?_
  refine z_aload0 dX12_of_0 ?_
  refine z_getRs fl_RX12_21 (by decide) hW.o (hW.r 3 rfl) dX12_of_1 ?_
  refine z_bipush (v := 7) dX12_of_4 (by decide) ?_
  refine z_iload1 dX12_of_6 ?_
  refine z_imul dX12_of_7 ?_
  refine z_iload2 dX12_of_8 ?_
  refine z_iadd dX12_of_9 ?_
  refine z_ialdE (hW.i 3 rfl) (hW.l 3 rfl) (show (7 : Int32) * nI q + nI k = nI (7 * q + k) from by rw [show (7 : Int32) = nI 7 from rfl, pk_mul, nI_add]) (by omega) (by decide) dX12_of_10 ?_
  refine z_iret dX12_of_11 rfl ?_
  exact ⟨rfl, rfl, rfl, rfl, rfl⟩
set_option maxRecDepth 20000 in
theorem T_X12_uses {l : Launch} {d : Nat} {D : zD} {b0 : Nat} {g : zG} {f : zI} {o : Nat} (hW : RW b0 g o)(r : Nat) (hr : r < 1200) : zM l d D b0 mX12_uses [.ref o, .int (nI r)] g f (zEx (some (.int (f (o + 2) (3630 + 3 * r + 2)))) g f) := by
  refine zM.start zmd_X12_uses (Nat.le_of_ble_eq_true rfl) ⟨rfl, rfl, trivial⟩ [some (.ref o), some (.int (nI r))] rfl ?_
  refine z_aload0 dX12_uses_0 ?_
  refine z_getRs fl_RX12_14 (by decide) hW.o (hW.r 1 rfl) dX12_uses_1 ?_
  refine z_sipush (v := 3630) dX12_uses_4 (by decide) ?_
  refine z_iconst (v := 3) dX12_uses_7 (by decide) ?_
  refine z_iload1 dX12_uses_8 ?_
  refine z_imul dX12_uses_9 ?_
  refine z_iadd dX12_uses_10 ?_
  refine z_iconst (v := 2) dX12_uses_11 (by decide) ?_
  refine z_iadd dX12_uses_12 ?_
  refine z_ialdE (hW.i 1 rfl) (hW.l 1 rfl) (show (3630 : Int32) + 3 * nI r + 2 = nI (3630 + 3 * r + 2) from by rw [show (3 : Int32) = nI 3 from rfl, pk_mul, show (3630 : Int32) = nI 3630 from rfl, nI_add, show (2 : Int32) = nI 2 from rfl, nI_add]) (by omega) (by decide) dX12_uses_13 ?_
  refine z_iret dX12_uses_14 rfl ?_
  exact ⟨rfl, rfl, rfl, rfl, rfl⟩
