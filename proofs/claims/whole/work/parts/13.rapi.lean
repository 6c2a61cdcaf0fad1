/-! The reference's other calls: text, what is told, images. -/
/-- a stretch of row r2 is copied into row r1 -/
def pcp (M : zI) (r1 d1 r2 s2 k : Nat) : zI := fun r c => if r = r1 ∧ d1 ≤ c ∧ c < d1 + k then M r2 (s2 + (c - d1)) else M r c
theorem pcp_0 (M : zI) (r1 d1 r2 s2 : Nat) : pcp M r1 d1 r2 s2 0 = M := by
  funext r c
  unfold pcp
  rw [if_neg (by omega)]
theorem pcp_s (M : zI) (r1 d1 r2 s2 k : Nat) : zup (pcp M r1 d1 r2 s2 k) r1 (d1 + k) (M r2 (s2 + k)) = pcp M r1 d1 r2 s2 (k + 1) := by
  funext r c
  unfold zup pcp
  by_cases h1 : r = r1
  · by_cases h2 : c = d1 + k
    · rw [if_pos h1, if_pos h2, if_pos (by omega), h2, Nat.add_sub_cancel_left]
    · rw [if_pos h1, if_neg h2]
      by_cases h3 : d1 ≤ c ∧ c < d1 + k
      · rw [if_pos ⟨h1, h3⟩, if_pos (by omega)]
      · rw [if_neg (fun q => h3 q.2), if_neg (by omega)]
  · rw [if_neg h1, if_neg (fun q => h1 q.1), if_neg (fun q => h1 q.1)]
theorem pcp_r {M : zI} {r1 d1 r2 s2 k r c : Nat} (h : r ≠ r1) : pcp M r1 d1 r2 s2 k r c = M r c := if_neg (fun q => h q.1)
def pfill (M : zI) (k : Nat) : zI := fun r c => if r = 2 ∧ 5 ≤ c ∧ c < k then 0 else M r c
theorem pfill_s (M : zI) (k : Nat) (hk : 5 ≤ k) : zup (pfill M k) 2 k 0 = pfill M (k + 1) := by
  funext r c
  unfold zup pfill
  by_cases h1 : r = 2
  · by_cases h2 : c = k
    · rw [if_pos h1, if_pos h2, if_pos (by omega)]
    · rw [if_pos h1, if_neg h2]
      by_cases h3 : 5 ≤ c ∧ c < k
      · rw [if_pos ⟨h1, h3⟩, if_pos (by omega)]
      · rw [if_neg (fun q => h3 q.2), if_neg (by omega)]
  · rw [if_neg h1, if_neg (fun q => h1 q.1), if_neg (fun q => h1 q.1)]
theorem pfill_0 (M : zI) : pfill M 5 = M := by
  funext r c
  unfold pfill
  rw [if_neg (by omega)]
def pbegin (M : zI) : zI :=
  let M2 := zup (zup (zup (zup (pfill M 30) 2 5 1) 2 7 (-9)) 2 15 (-9)) 2 16 2
  zup (zup (zup M2 2 17 (M2 2 0)) 2 18 (-9)) 2 19 (-9)
set_option maxRecDepth 20000 in
theorem Rl_X12_begin {l : Launch} {d : Nat} {D : zD} {b0 : Nat} {g : zG} {f M : zI} {o : Nat} (hW : RW b0 g o) : ∀ (j k : Nat), k + j = 30 → 5 ≤ k → zS l d D b0 mX12_begin 0 0 2 [some (.ref o), some (.int (nI k))] [] g (rv o f (pfill M k)) (zq D b0 (zEx none g (rv o f (pbegin M)))) := by
  intro j
  induction j with
  | zero =>
    intro k hk h5
    obtain rfl : k = 30 := by omega
    refine z_iload1 dX12_begin_2 ?_
    refine z_bipush (v := 30) dX12_begin_3 (by decide) ?_
    refine z_icmp_ge (tgt := 21) dX12_begin_5 (by decide) (fun c5 => ?_) (fun c5 => absurd c5 (by decide))
    show zS _ _ _ _ _ _ _ 21 _ _ _ _ _
    refine z_aload0 dX12_begin_21 ?_
    refine z_getRs fl_RX12_14 (by decide) hW.o (hW.r 1 rfl) dX12_begin_22 ?_
    refine z_iconst (v := 5) dX12_begin_25 (by decide) ?_
    refine z_iconst (v := 1) dX12_begin_26 (by decide) ?_
    refine zr_st hW (i := 1) rfl (by decide) (by decide) (ixC 5) (by decide) dX12_begin_27 ?_
    refine z_aload0 dX12_begin_28 ?_
    refine z_getRs fl_RX12_14 (by decide) hW.o (hW.r 1 rfl) dX12_begin_29 ?_
    refine z_bipush (v := 7) dX12_begin_32 (by decide) ?_
    refine z_bipush (v := (-9)) dX12_begin_34 (by decide) ?_
    refine zr_st hW (i := 1) rfl (by decide) (by decide) (ixC 7) (by decide) dX12_begin_36 ?_
    refine z_aload0 dX12_begin_37 ?_
    show zS _ _ _ _ _ _ _ 38 _ _ _ _ _
    refine z_getRs fl_RX12_14 (by decide) hW.o (hW.r 1 rfl) dX12_begin_38 ?_
    refine z_bipush (v := 15) dX12_begin_41 (by decide) ?_
    refine z_bipush (v := (-9)) dX12_begin_43 (by decide) ?_
    refine zr_st hW (i := 1) rfl (by decide) (by decide) (ixC 15) (by decide) dX12_begin_45 ?_
    refine z_aload0 dX12_begin_46 ?_
    refine z_getRs fl_RX12_14 (by decide) hW.o (hW.r 1 rfl) dX12_begin_47 ?_
    refine z_bipush (v := 16) dX12_begin_50 (by decide) ?_
    refine z_iconst (v := 2) dX12_begin_52 (by decide) ?_
    refine zr_st hW (i := 1) rfl (by decide) (by decide) (ixC 16) (by decide) dX12_begin_53 ?_
    refine z_aload0 dX12_begin_54 ?_
    refine z_getRs fl_RX12_14 (by decide) hW.o (hW.r 1 rfl) dX12_begin_55 ?_
    refine z_bipush (v := 17) dX12_begin_58 (by decide) ?_
    show zS _ _ _ _ _ _ _ 60 _ _ _ _ _
    refine z_aload0 dX12_begin_60 ?_
    refine z_getRs fl_RX12_14 (by decide) hW.o (hW.r 1 rfl) dX12_begin_61 ?_
    refine z_iconst (v := 0) dX12_begin_64 (by decide) ?_
    refine zr_ld hW (i := 1) rfl (by decide) (by decide) (ixC 0) (by decide) dX12_begin_65 ?_
    refine zr_st hW (i := 1) rfl (by decide) (by decide) (ixC 17) (by decide) dX12_begin_66 ?_
    refine z_aload0 dX12_begin_67 ?_
    refine z_getRs fl_RX12_14 (by decide) hW.o (hW.r 1 rfl) dX12_begin_68 ?_
    refine z_bipush (v := 18) dX12_begin_71 (by decide) ?_
    refine z_bipush (v := (-9)) dX12_begin_73 (by decide) ?_
    refine zr_st hW (i := 1) rfl (by decide) (by decide) (ixC 18) (by decide) dX12_begin_75 ?_
    refine z_aload0 dX12_begin_76 ?_
    refine z_getRs fl_RX12_14 (by decide) hW.o (hW.r 1 rfl) dX12_begin_77 ?_
    show zS _ _ _ _ _ _ _ 80 _ _ _ _ _
    refine z_bipush (v := 19) dX12_begin_80 (by decide) ?_
    refine z_bipush (v := (-9)) dX12_begin_82 (by decide) ?_
    refine zr_st hW (i := 1) rfl (by decide) (by decide) (ixC 19) (by decide) dX12_begin_84 ?_
    refine z_ret dX12_begin_85 rfl ?_
    exact ⟨rfl, rfl, rfl, rfl, rfl⟩
  | succ j ih =>
    intro k hk h5
    refine z_iload1 dX12_begin_2 ?_
    refine z_bipush (v := 30) dX12_begin_3 (by decide) ?_
    refine z_icmp_ge (tgt := 21) dX12_begin_5 (by decide) (fun c5 => absurd (nI_lt (b := 30) (by omega) (by decide)) c5) (fun c5 => ?_)
    show zS _ _ _ _ _ _ _ 8 _ _ _ _ _
    refine z_aload0 dX12_begin_8 ?_
    refine z_getRs fl_RX12_14 (by decide) hW.o (hW.r 1 rfl) dX12_begin_9 ?_
    refine z_iload1 dX12_begin_12 ?_
    refine z_iconst (v := 0) dX12_begin_13 (by decide) ?_
    refine zr_st hW (i := 1) rfl (by decide) (by decide) (rfl : nI k = nI k) (by omega) dX12_begin_14 ?_
    refine z_iinc1 (y := 1) dX12_begin_15 (by decide) ?_
    refine z_goto (tgt := 2) dX12_begin_18 (by decide) ?_
    rw [nI_1, pfill_s M k h5]
    exact ih (k + 1) (by omega) (by omega)
set_option maxRecDepth 20000 in
theorem R_X12_begin {l : Launch} {d : Nat} {D : zD} {b0 : Nat} {g : zG} {f M : zI} {o : Nat} (hW : RW b0 g o)  : zM l d D b0 mX12_begin [.ref o] g (rv o f M) (zEx none g (rv o f (pbegin M))) := by
  refine zM.start zmd_X12_begin (Nat.le_of_ble_eq_true rfl) ⟨rfl, trivial⟩ [some (.ref o), none] rfl ?_
  refine z_iconst (v := 5) dX12_begin_0 (by decide) ?_
  refine z_istore1 dX12_begin_1 ?_
  have h := Rl_X12_begin (l := l) (d := d) (D := D) (f := f) (M := M) hW 25 5 (by omega) (by omega)
  rw [pfill_0] at h
  exact h
def prestart (M : zI) : Int32 × zI := if M 2 0 = -9 then (-2, M) else (M 2 5, pbegin M)
def pundef (M : zI) (x : Int32) : Int32 × zI := if x < 0 ∨ 3 < x then (-1, M) else (if M 2 (1 + tn x) = -9 then 0 else 1, zup M 2 (1 + tn x) (-9))
def pwrite (M : zI) (x : Int32) : Int32 × zI := if x < 32 ∨ 126 < x then (-1, M) else if M 0 8 = 120 then (-3, M) else (M 0 8 + 1, zup (zup M 6 (tn (M 0 8)) x) 0 8 (M 0 8 + 1))
theorem zBno {x a b : Int32} (h : zB (¬ x < a ∧ ¬ b < x) = 0) : x < a ∨ b < x := by
  rcases Decidable.not_and_iff_or_not.mp (zB_f h) with q | q
  · exact Or.inl (Decidable.not_not.mp q)
  · exact Or.inr (Decidable.not_not.mp q)
theorem zByes {x a b : Int32} (h : ¬ zB (¬ x < a ∧ ¬ b < x) = 0) : ¬ (x < a ∨ b < x) := fun q => q.elim (zB_t h).1 (zB_t h).2
theorem iv_of {x : Int32} {n : Nat} (hn : n < 2 ^ 31) (h : ¬ (x < 0 ∨ nI n < x)) : iv (n + 1) x := by
  obtain ⟨j, h1, rfl⟩ := nI_of (fun q => h (Or.inl q))
  exact iv_nI (Nat.lt_succ_of_le (Nat.not_lt.mp (fun q => h (Or.inr (nI_lt q h1))))) (by omega)
set_option maxRecDepth 20000 in
theorem R_X12_restart {l : Launch} {d : Nat} {D : zD} {b0 : Nat} {g : zG} {f M : zI} {o : Nat} (hW : RW b0 g o)  (hd : 1 ≤ d) : zM l d D b0 mX12_restart [.ref o] g (rv o f M) (zEx (some (.int ((prestart M).1))) g (rv o f ((prestart M).2))) := by
  refine zM.start zmd_X12_restart (Nat.le_of_ble_eq_true rfl) ⟨rfl, trivial⟩ [some (.ref o), none] rfl ?_
  refine z_aload0 dX12_restart_0 ?_
  refine z_getRs fl_RX12_14 (by decide) hW.o (hW.r 1 rfl) dX12_restart_1 ?_
  refine z_iconst (v := 0) dX12_restart_4 (by decide) ?_
  refine zr_ld hW (i := 1) rfl (by decide) (by decide) (ixC 0) (by decide) dX12_restart_5 ?_
  refine z_bipush (v := (-9)) dX12_restart_6 (by decide) ?_
  refine z_icmp_ne (tgt := 14) dX12_restart_8 (by decide) (fun c8 => ?_) (fun c8 => ?_)
  · show zS _ _ _ _ _ _ _ 14 _ _ _ _ _
    refine z_aload0 dX12_restart_14 ?_
    refine z_getRs fl_RX12_14 (by decide) hW.o (hW.r 1 rfl) dX12_restart_15 ?_
    refine z_iconst (v := 5) dX12_restart_18 (by decide) ?_
    refine zr_ld hW (i := 1) rfl (by decide) (by decide) (ixC 5) (by decide) dX12_restart_19 ?_
    refine z_istore1 dX12_restart_20 ?_
    refine z_aload0 dX12_restart_21 ?_
    refine z_callVv zmd_X12_begin rfl (by decide) zl_RX12_71 zin_X12_begin zsel_X12_begin (R_X12_begin (d := d - 1) hW ) hW.o rfl rfl (by omega) rfl dX12_restart_22 ?_
    refine z_iload1 dX12_restart_25 ?_
    refine z_iret dX12_restart_26 rfl ?_
    rw [show prestart M = _ from if_neg c8]
    exact ⟨rfl, rfl, rfl, rfl, rfl⟩
  · show zS _ _ _ _ _ _ _ 11 _ _ _ _ _
    refine z_bipush (v := (-2)) dX12_restart_11 (by decide) ?_
    refine z_iret dX12_restart_13 rfl ?_
    rw [show prestart M = (-2, M) from if_pos c8]
    exact ⟨rfl, rfl, rfl, rfl, rfl⟩
set_option maxRecDepth 20000 in
theorem R_X12_undefine {l : Launch} {d : Nat} {D : zD} {b0 : Nat} {g : zG} {f M : zI} {o : Nat} (hW : RW b0 g o) (x : Int32) (hd : 1 ≤ d) : zM l d D b0 mX12_undefine [.ref o, .int x] g (rv o f M) (zEx (some (.int ((pundef M x).1))) g (rv o f ((pundef M x).2))) := by
  refine zM.start zmd_X12_undefine (Nat.le_of_ble_eq_true rfl) ⟨rfl, rfl, trivial⟩ [some (.ref o), some (.int x), none] rfl ?_
  refine z_iload1 dX12_undefine_0 ?_
  refine z_iconst (v := 0) dX12_undefine_1 (by decide) ?_
  refine z_iconst (v := 3) dX12_undefine_2 (by decide) ?_
  refine z_callSi zmd_X12_isIn zl_RX12_74 zst_X12_isIn (R_X12_isIn (d := d - 1) hW _ _ _) rfl rfl (by omega) rfl dX12_undefine_3 ?_
  refine z_if_ne (tgt := 11) dX12_undefine_6 (by decide) (fun c6 => ?_) (fun c6 => ?_)
  · show zS _ _ _ _ _ _ _ 11 _ _ _ _ _
    have hi : iv 4 x := iv_of (n := 3) (by decide) (zByes c6)
    have hi1 := hi.1
    refine z_aload0 dX12_undefine_11 ?_
    refine z_getRs fl_RX12_14 (by decide) hW.o (hW.r 1 rfl) dX12_undefine_12 ?_
    refine z_iconst (v := 1) dX12_undefine_15 (by decide) ?_
    refine z_iload1 dX12_undefine_16 ?_
    refine z_iadd dX12_undefine_17 ?_
    refine zr_ld hW (i := 1) rfl (by decide) (by decide) (ixA (ixC 1) hi.2) (by omega) dX12_undefine_18 ?_
    refine z_bipush (v := (-9)) dX12_undefine_19 (by decide) ?_
    refine z_icmp_eq (tgt := 28) dX12_undefine_21 (by decide) (fun c21 => ?_) (fun c21 => ?_)
    · show zS _ _ _ _ _ _ _ 28 _ _ _ _ _
      refine z_iconst (v := 0) dX12_undefine_28 (by decide) ?_
      refine z_istore2 dX12_undefine_29 ?_
      refine z_aload0 dX12_undefine_30 ?_
      refine z_getRs fl_RX12_14 (by decide) hW.o (hW.r 1 rfl) dX12_undefine_31 ?_
      refine z_iconst (v := 1) dX12_undefine_34 (by decide) ?_
      refine z_iload1 dX12_undefine_35 ?_
      refine z_iadd dX12_undefine_36 ?_
      refine z_bipush (v := (-9)) dX12_undefine_37 (by decide) ?_
      refine zr_st hW (i := 1) rfl (by decide) (by decide) (ixA (ixC 1) hi.2) (by omega) dX12_undefine_39 ?_
      refine z_iload2 dX12_undefine_40 ?_
      refine z_iret dX12_undefine_41 rfl ?_
      rw [show pundef M x = _ from if_neg (zByes c6)]
      first | (rw [if_pos (by assumption)]; exact ⟨rfl, rfl, rfl, rfl, rfl⟩) | (rw [if_neg (by assumption)]; exact ⟨rfl, rfl, rfl, rfl, rfl⟩)
    · show zS _ _ _ _ _ _ _ 24 _ _ _ _ _
      refine z_iconst (v := 1) dX12_undefine_24 (by decide) ?_
      refine z_goto (tgt := 29) dX12_undefine_25 (by decide) ?_
      show zS _ _ _ _ _ _ _ 29 _ _ _ _ _
      refine z_istore2 dX12_undefine_29 ?_
      refine z_aload0 dX12_undefine_30 ?_
      refine z_getRs fl_RX12_14 (by decide) hW.o (hW.r 1 rfl) dX12_undefine_31 ?_
      refine z_iconst (v := 1) dX12_undefine_34 (by decide) ?_
      refine z_iload1 dX12_undefine_35 ?_
      refine z_iadd dX12_undefine_36 ?_
      refine z_bipush (v := (-9)) dX12_undefine_37 (by decide) ?_
      refine zr_st hW (i := 1) rfl (by decide) (by decide) (ixA (ixC 1) hi.2) (by omega) dX12_undefine_39 ?_
      refine z_iload2 dX12_undefine_40 ?_
      refine z_iret dX12_undefine_41 rfl ?_
      rw [show pundef M x = _ from if_neg (zByes c6)]
      first | (rw [if_pos (by assumption)]; exact ⟨rfl, rfl, rfl, rfl, rfl⟩) | (rw [if_neg (by assumption)]; exact ⟨rfl, rfl, rfl, rfl, rfl⟩)
  · show zS _ _ _ _ _ _ _ 9 _ _ _ _ _
    refine z_iconst (v := (-1)) dX12_undefine_9 (by decide) ?_
    refine z_iret dX12_undefine_10 rfl ?_
    rw [show pundef M x = (-1, M) from if_pos (zBno c6)]
    exact ⟨rfl, rfl, rfl, rfl, rfl⟩
set_option maxRecDepth 20000 in
theorem R_X12_write {l : Launch} {d : Nat} {D : zD} {b0 : Nat} {g : zG} {f M : zI} {o : Nat} (hW : RW b0 g o) (x : Int32) (hL : iv 121 (M 0 8)) (hd : 1 ≤ d) : zM l d D b0 mX12_write [.ref o, .int x] g (rv o f M) (zEx (some (.int ((pwrite M x).1))) g (rv o f ((pwrite M x).2))) := by
  have hL1 := hL.1
  refine zM.start zmd_X12_write (Nat.le_of_ble_eq_true rfl) ⟨rfl, rfl, trivial⟩ [some (.ref o), some (.int x)] rfl ?_
  refine z_iload1 dX12_write_0 ?_
  refine z_bipush (v := 32) dX12_write_1 (by decide) ?_
  refine z_bipush (v := 126) dX12_write_3 (by decide) ?_
  refine z_callSi zmd_X12_isIn zl_RX12_74 zst_X12_isIn (R_X12_isIn (d := d - 1) hW _ _ _) rfl rfl (by omega) rfl dX12_write_5 ?_
  refine z_if_ne (tgt := 13) dX12_write_8 (by decide) (fun c8 => ?_) (fun c8 => ?_)
  · show zS _ _ _ _ _ _ _ 13 _ _ _ _ _
    refine z_aload0 dX12_write_13 ?_
    refine zr_getI fl_RX12_78 hW dX12_write_14 ?_
    refine z_bipush (v := 120) dX12_write_17 (by decide) ?_
    refine z_icmp_ne (tgt := 25) dX12_write_19 (by decide) (fun c19 => ?_) (fun c19 => ?_)
    · show zS _ _ _ _ _ _ _ 25 _ _ _ _ _
      refine z_aload0 dX12_write_25 ?_
      refine z_getRs fl_RX12_28 (by decide) hW.o (hW.r 5 rfl) dX12_write_26 ?_
      refine z_aload0 dX12_write_29 ?_
      refine zr_getI fl_RX12_78 hW dX12_write_30 ?_
      have hlt : tn (M 0 8) < 120 := by
        have e := hL.2
        rcases Nat.lt_or_ge (tn (M 0 8)) 120 with q | q
        · exact q
        · exact absurd (show M 0 8 = 120 by rw [e, show tn (M 0 8) = 120 by omega]; rfl) c19
      refine z_iload1 dX12_write_33 ?_
      refine zr_st hW (i := 5) rfl (by decide) (by decide) hL.2 (by omega) dX12_write_34 ?_
      refine z_aload0 dX12_write_35 ?_
      refine z_dup dX12_write_36 ?_
      refine zr_getI fl_RX12_78 hW dX12_write_37 ?_
      refine z_iconst (v := 1) dX12_write_40 (by decide) ?_
      refine z_iadd dX12_write_41 ?_
      show zS _ _ _ _ _ _ _ 42 _ _ _ _ _
      refine zr_putI fl_RX12_78 hW dX12_write_42 ?_
      refine z_aload0 dX12_write_45 ?_
      refine zr_getI fl_RX12_78 hW dX12_write_46 ?_
      refine z_iret dX12_write_49 rfl ?_
      rw [show pwrite M x = _ from (if_neg (zByes c8)).trans (if_neg c19)]
      exact ⟨rfl, rfl, rfl, rfl, rfl⟩
    · show zS _ _ _ _ _ _ _ 22 _ _ _ _ _
      refine z_bipush (v := (-3)) dX12_write_22 (by decide) ?_
      refine z_iret dX12_write_24 rfl ?_
      rw [show pwrite M x = (-3, M) from (if_neg (zByes c8)).trans (if_pos c19)]
      exact ⟨rfl, rfl, rfl, rfl, rfl⟩
  · show zS _ _ _ _ _ _ _ 11 _ _ _ _ _
    refine z_iconst (v := (-1)) dX12_write_11 (by decide) ?_
    refine z_iret dX12_write_12 rfl ?_
    rw [show pwrite M x = (-1, M) from if_pos (zBno c8)]
    exact ⟨rfl, rfl, rfl, rfl, rfl⟩
set_option maxRecDepth 20000 in
theorem R_X12_wipe {l : Launch} {d : Nat} {D : zD} {b0 : Nat} {g : zG} {f M : zI} {o : Nat} (hW : RW b0 g o)  : zM l d D b0 mX12_wipe [.ref o] g (rv o f M) (zEx (some (.int (M 0 8))) g (rv o f (zup M 0 8 0))) := by
  refine zM.start zmd_X12_wipe (Nat.le_of_ble_eq_true rfl) ⟨rfl, trivial⟩ [some (.ref o), none] rfl ?_
  refine z_aload0 dX12_wipe_0 ?_
  refine zr_getI fl_RX12_78 hW dX12_wipe_1 ?_
  refine z_istore1 dX12_wipe_4 ?_
  refine z_aload0 dX12_wipe_5 ?_
  refine z_iconst (v := 0) dX12_wipe_6 (by decide) ?_
  refine zr_putI fl_RX12_78 hW dX12_wipe_7 ?_
  refine z_iload1 dX12_wipe_10 ?_
  refine z_iret dX12_wipe_11 rfl ?_
  exact ⟨rfl, rfl, rfl, rfl, rfl⟩
def pdfA (M : zI) : Nat → Nat → Int32 → Int32
  | 0, _, x => x
  | j + 1, k, x => pdfA M j (k + 1) (x + (if M 2 (1 + k) = -9 then 0 else 1))
def pclsA (M : zI) (n : Int32) : Nat → Nat → Int32 → Int32
  | 0, _, x => x
  | j + 1, k, x => pclsA M n j (k + 1) (x + (if pclause M n (nI k) = -9 then 0 else 1))
def ptold (M : zI) (x : Int32) : Int32 := if x = 0 then M 2 5 else if x = 1 then M 2 6 else if x = 2 then pdepth M else if x = 3 then M 2 8 else if x = 4 then M 2 9 else if x = 5 then M 2 10 else if x = 6 then M 2 11 else if x = 7 then M 2 12 else if x = 8 then M 2 13 else if x = 9 then M 2 14 else if x = 10 then M 2 15 else if x = 11 then M 0 8 else if x = 12 then pdfA M 4 0 0 else -1
set_option maxRecDepth 20000 in
theorem Rl_X12_defined {l : Launch} {d : Nat} {D : zD} {b0 : Nat} {g : zG} {f M : zI} {o : Nat} (hW : RW b0 g o) : ∀ (j k : Nat) (x : Int32), k + j = 4 → zS l d D b0 mX12_defined 0 0 4 [some (.ref o), some (.int x), some (.int (nI k))] [] g (rv o f M) (zq D b0 (zEx (some (.int (pdfA M j k x))) g (rv o f M))) := by
  intro j
  induction j with
  | zero =>
    intro k x hk
    refine z_iload2 dX12_defined_4 ?_
    refine z_iconst (v := 4) dX12_defined_5 (by decide) ?_
    refine z_icmp_ge (tgt := 36) dX12_defined_6 (by decide) (fun c6 => ?_) (fun c6 => absurd c6 (nI_nlt (a := k) (b := 4) (by omega) (by omega)))
    show zS _ _ _ _ _ _ _ 36 _ _ _ _ _
    refine z_iload1 dX12_defined_36 ?_
    refine z_iret dX12_defined_37 rfl ?_
    exact ⟨rfl, rfl, rfl, rfl, rfl⟩
  | succ j ih =>
    intro k x hk
    refine z_iload2 dX12_defined_4 ?_
    refine z_iconst (v := 4) dX12_defined_5 (by decide) ?_
    refine z_icmp_ge (tgt := 36) dX12_defined_6 (by decide) (fun c6 => absurd (nI_lt (b := 4) (by omega) (by decide)) c6) (fun c6 => ?_)
    show zS _ _ _ _ _ _ _ 9 _ _ _ _ _
    refine z_iload1 dX12_defined_9 ?_
    refine z_aload0 dX12_defined_10 ?_
    refine z_getRs fl_RX12_14 (by decide) hW.o (hW.r 1 rfl) dX12_defined_11 ?_
    refine z_iconst (v := 1) dX12_defined_14 (by decide) ?_
    refine z_iload2 dX12_defined_15 ?_
    refine z_iadd dX12_defined_16 ?_
    refine zr_ld hW (i := 1) rfl (by decide) (by decide) (ixA (ixC 1) (rfl : nI k = nI k)) (by omega) dX12_defined_17 ?_
    refine z_bipush (v := (-9)) dX12_defined_18 (by decide) ?_
    refine z_icmp_eq (tgt := 27) dX12_defined_20 (by decide) (fun c20 => ?_) (fun c20 => ?_)
    · show zS _ _ _ _ _ _ _ 27 _ _ _ _ _
      refine z_iconst (v := 0) dX12_defined_27 (by decide) ?_
      refine z_iadd dX12_defined_28 ?_
      refine z_istore1 dX12_defined_29 ?_
      refine z_iinc2 (y := 1) dX12_defined_30 (by decide) ?_
      refine z_goto (tgt := 4) dX12_defined_33 (by decide) ?_
      have e := ih (k + 1) (x + (if M 2 (1 + k) = -9 then 0 else 1)) (by omega)
      rw [nI_1]
      first | (rw [if_neg (by assumption)] at e; rw [show pdfA M (j + 1) k x = pdfA M j (k + 1) (x + 1) from congrArg (fun z => pdfA M j (k + 1) (x + z)) (if_neg (by assumption))]; exact e) | (rw [if_pos (by assumption)] at e; rw [show pdfA M (j + 1) k x = pdfA M j (k + 1) (x + 0) from congrArg (fun z => pdfA M j (k + 1) (x + z)) (if_pos (by assumption))]; exact e)
    · show zS _ _ _ _ _ _ _ 23 _ _ _ _ _
      refine z_iconst (v := 1) dX12_defined_23 (by decide) ?_
      refine z_goto (tgt := 28) dX12_defined_24 (by decide) ?_
      show zS _ _ _ _ _ _ _ 28 _ _ _ _ _
      refine z_iadd dX12_defined_28 ?_
      refine z_istore1 dX12_defined_29 ?_
      refine z_iinc2 (y := 1) dX12_defined_30 (by decide) ?_
      refine z_goto (tgt := 4) dX12_defined_33 (by decide) ?_
      have e := ih (k + 1) (x + (if M 2 (1 + k) = -9 then 0 else 1)) (by omega)
      rw [nI_1]
      first | (rw [if_neg (by assumption)] at e; rw [show pdfA M (j + 1) k x = pdfA M j (k + 1) (x + 1) from congrArg (fun z => pdfA M j (k + 1) (x + z)) (if_neg (by assumption))]; exact e) | (rw [if_pos (by assumption)] at e; rw [show pdfA M (j + 1) k x = pdfA M j (k + 1) (x + 0) from congrArg (fun z => pdfA M j (k + 1) (x + z)) (if_pos (by assumption))]; exact e)
set_option maxRecDepth 20000 in
theorem R_X12_defined {l : Launch} {d : Nat} {D : zD} {b0 : Nat} {g : zG} {f M : zI} {o : Nat} (hW : RW b0 g o)  : zM l d D b0 mX12_defined [.ref o] g (rv o f M) (zEx (some (.int (pdfA M 4 0 0))) g (rv o f M)) := by
  refine zM.start zmd_X12_defined (Nat.le_of_ble_eq_true rfl) ⟨rfl, trivial⟩ [some (.ref o), none, none] rfl ?_
  refine z_iconst (v := 0) dX12_defined_0 (by decide) ?_
  refine z_istore1 dX12_defined_1 ?_
  refine z_iconst (v := 0) dX12_defined_2 (by decide) ?_
  refine z_istore2 dX12_defined_3 ?_
  exact Rl_X12_defined hW 4 0 0 (by omega)
set_option maxRecDepth 20000 in
theorem Rl_X12_clauses {l : Launch} {d : Nat} {D : zD} {b0 : Nat} {g : zG} {f M : zI} {o : Nat} (hW : RW b0 g o) (n : Int32) (hn : iv 65000 n) (hc : pclOk M n) (hd : 1 ≤ d) : ∀ (j k : Nat) (x : Int32), k + j = 6 → zS l d D b0 mX12_clauses 0 0 4 [some (.ref o), some (.int n), some (.int x), some (.int (nI k))] [] g (rv o f M) (zq D b0 (zEx (some (.int (pclsA M n j k x))) g (rv o f M))) := by
  intro j
  induction j with
  | zero =>
    intro k x hk
    refine z_iload3 dX12_clauses_4 ?_
    refine z_bipush (v := 6) dX12_clauses_5 (by decide) ?_
    refine z_icmp_ge (tgt := 35) dX12_clauses_7 (by decide) (fun c6 => ?_) (fun c6 => absurd c6 (nI_nlt (a := k) (b := 6) (by omega) (by omega)))
    show zS _ _ _ _ _ _ _ 35 _ _ _ _ _
    refine z_iload2 dX12_clauses_35 ?_
    refine z_iret dX12_clauses_36 rfl ?_
    exact ⟨rfl, rfl, rfl, rfl, rfl⟩
  | succ j ih =>
    intro k x hk
    refine z_iload3 dX12_clauses_4 ?_
    refine z_bipush (v := 6) dX12_clauses_5 (by decide) ?_
    refine z_icmp_ge (tgt := 35) dX12_clauses_7 (by decide) (fun c6 => absurd (nI_lt (b := 6) (by omega) (by decide)) c6) (fun c6 => ?_)
    show zS _ _ _ _ _ _ _ 10 _ _ _ _ _
    refine z_iload2 dX12_clauses_10 ?_
    refine z_aload0 dX12_clauses_11 ?_
    refine z_iload1 dX12_clauses_12 ?_
    refine z_iload3 dX12_clauses_13 ?_
    refine z_callVi zmd_X12_clause rfl (by decide) zl_RX12_131 zin_X12_clause zsel_X12_clause (R_X12_clause (d := d - 1) hW _ _ hn hc) hW.o rfl rfl (by omega) rfl dX12_clauses_14 ?_
    refine z_bipush (v := (-9)) dX12_clauses_17 (by decide) ?_
    refine z_icmp_eq (tgt := 26) dX12_clauses_19 (by decide) (fun c19 => ?_) (fun c19 => ?_)
    · show zS _ _ _ _ _ _ _ 26 _ _ _ _ _
      refine z_iconst (v := 0) dX12_clauses_26 (by decide) ?_
      refine z_iadd dX12_clauses_27 ?_
      refine z_istore2 dX12_clauses_28 ?_
      refine z_iinc3 (y := 1) dX12_clauses_29 (by decide) ?_
      refine z_goto (tgt := 4) dX12_clauses_32 (by decide) ?_
      have e := ih (k + 1) (x + (if pclause M n (nI k) = -9 then 0 else 1)) (by omega)
      rw [nI_1]
      first | (rw [if_neg (by assumption)] at e; rw [show pclsA M n (j + 1) k x = pclsA M n j (k + 1) (x + 1) from congrArg (fun z => pclsA M n j (k + 1) (x + z)) (if_neg (by assumption))]; exact e) | (rw [if_pos (by assumption)] at e; rw [show pclsA M n (j + 1) k x = pclsA M n j (k + 1) (x + 0) from congrArg (fun z => pclsA M n j (k + 1) (x + z)) (if_pos (by assumption))]; exact e)
    · show zS _ _ _ _ _ _ _ 22 _ _ _ _ _
      refine z_iconst (v := 1) dX12_clauses_22 (by decide) ?_
      refine z_goto (tgt := 27) dX12_clauses_23 (by decide) ?_
      show zS _ _ _ _ _ _ _ 27 _ _ _ _ _
      refine z_iadd dX12_clauses_27 ?_
      refine z_istore2 dX12_clauses_28 ?_
      refine z_iinc3 (y := 1) dX12_clauses_29 (by decide) ?_
      refine z_goto (tgt := 4) dX12_clauses_32 (by decide) ?_
      have e := ih (k + 1) (x + (if pclause M n (nI k) = -9 then 0 else 1)) (by omega)
      rw [nI_1]
      first | (rw [if_neg (by assumption)] at e; rw [show pclsA M n (j + 1) k x = pclsA M n j (k + 1) (x + 1) from congrArg (fun z => pclsA M n j (k + 1) (x + z)) (if_neg (by assumption))]; exact e) | (rw [if_pos (by assumption)] at e; rw [show pclsA M n (j + 1) k x = pclsA M n j (k + 1) (x + 0) from congrArg (fun z => pclsA M n j (k + 1) (x + z)) (if_pos (by assumption))]; exact e)
set_option maxRecDepth 20000 in
theorem R_X12_clauses {l : Launch} {d : Nat} {D : zD} {b0 : Nat} {g : zG} {f M : zI} {o : Nat} (hW : RW b0 g o) (n : Int32) (hn : iv 65000 n) (hc : pclOk M n) (hd : 1 ≤ d) : zM l d D b0 mX12_clauses [.ref o, .int n] g (rv o f M) (zEx (some (.int (pclsA M n 6 0 0))) g (rv o f M)) := by
  refine zM.start zmd_X12_clauses (Nat.le_of_ble_eq_true rfl) ⟨rfl, rfl, trivial⟩ [some (.ref o), some (.int n), none, none] rfl ?_
  refine z_iconst (v := 0) dX12_clauses_0 (by decide) ?_
  refine z_istore2 dX12_clauses_1 ?_
  refine z_iconst (v := 0) dX12_clauses_2 (by decide) ?_
  refine z_istore3 dX12_clauses_3 ?_
  exact Rl_X12_clauses hW n hn hc hd 6 0 0 (by omega)
set_option maxRecDepth 20000 in
theorem R_X12_told {l : Launch} {d : Nat} {D : zD} {b0 : Nat} {g : zG} {f M : zI} {o : Nat} (hW : RW b0 g o) (x : Int32) (hT : vd 40000 (M 2 7)) (hd : 2 ≤ d) : zM l d D b0 mX12_told [.ref o, .int x] g (rv o f M) (zEx (some (.int (ptold M x))) g (rv o f M)) := by
  refine zM.start zmd_X12_told (Nat.le_of_ble_eq_true rfl) ⟨rfl, rfl, trivial⟩ [some (.ref o), some (.int x)] rfl ?_
  refine z_iload1 dX12_told_0 ?_
  refine z_tab dX12_told_1 (by decide +kernel) (by decide +kernel) ?_
  refine ⟨fun c1_0 => ?_, fun nc1_0 => ?_⟩
  · show zS _ _ _ _ _ _ _ 68 _ _ _ _ _
    have kk : x = 0 := c1_0
    refine z_aload0 dX12_told_68 ?_
    refine z_getRs fl_RX12_14 (by decide) hW.o (hW.r 1 rfl) dX12_told_69 ?_
    refine z_iconst (v := 5) dX12_told_72 (by decide) ?_
    refine zr_ld hW (i := 1) rfl (by decide) (by decide) (ixC 5) (by decide) dX12_told_73 ?_
    refine z_iret dX12_told_74 rfl ?_
    subst kk
    exact ⟨rfl, rfl, rfl, rfl, rfl⟩
  refine ⟨fun c1_1 => ?_, fun nc1_1 => ?_⟩
  · show zS _ _ _ _ _ _ _ 75 _ _ _ _ _
    have kk : x = 1 := c1_1
    refine z_aload0 dX12_told_75 ?_
    refine z_getRs fl_RX12_14 (by decide) hW.o (hW.r 1 rfl) dX12_told_76 ?_
    refine z_bipush (v := 6) dX12_told_79 (by decide) ?_
    refine zr_ld hW (i := 1) rfl (by decide) (by decide) (ixC 6) (by decide) dX12_told_81 ?_
    refine z_iret dX12_told_82 rfl ?_
    subst kk
    exact ⟨rfl, rfl, rfl, rfl, rfl⟩
  refine ⟨fun c1_2 => ?_, fun nc1_2 => ?_⟩
  · show zS _ _ _ _ _ _ _ 83 _ _ _ _ _
    have kk : x = 2 := c1_2
    refine z_aload0 dX12_told_83 ?_
    refine z_callVi zmd_X12_depth rfl (by decide) zl_RX12_216 zin_X12_depth zsel_X12_depth (R_X12_depth (d := d - 1) hW hT (by omega)) hW.o rfl rfl (by omega) rfl dX12_told_84 ?_
    refine z_iret dX12_told_87 rfl ?_
    subst kk
    exact ⟨rfl, rfl, rfl, rfl, rfl⟩
  refine ⟨fun c1_3 => ?_, fun nc1_3 => ?_⟩
  · show zS _ _ _ _ _ _ _ 88 _ _ _ _ _
    have kk : x = 3 := c1_3
    refine z_aload0 dX12_told_88 ?_
    refine z_getRs fl_RX12_14 (by decide) hW.o (hW.r 1 rfl) dX12_told_89 ?_
    refine z_bipush (v := 8) dX12_told_92 (by decide) ?_
    refine zr_ld hW (i := 1) rfl (by decide) (by decide) (ixC 8) (by decide) dX12_told_94 ?_
    refine z_iret dX12_told_95 rfl ?_
    subst kk
    exact ⟨rfl, rfl, rfl, rfl, rfl⟩
  refine ⟨fun c1_4 => ?_, fun nc1_4 => ?_⟩
  · show zS _ _ _ _ _ _ _ 96 _ _ _ _ _
    have kk : x = 4 := c1_4
    refine z_aload0 dX12_told_96 ?_
    refine z_getRs fl_RX12_14 (by decide) hW.o (hW.r 1 rfl) dX12_told_97 ?_
    refine z_bipush (v := 9) dX12_told_100 (by decide) ?_
    refine zr_ld hW (i := 1) rfl (by decide) (by decide) (ixC 9) (by decide) dX12_told_102 ?_
    refine z_iret dX12_told_103 rfl ?_
    subst kk
    exact ⟨rfl, rfl, rfl, rfl, rfl⟩
  refine ⟨fun c1_5 => ?_, fun nc1_5 => ?_⟩
  · show zS _ _ _ _ _ _ _ 104 _ _ _ _ _
    have kk : x = 5 := c1_5
    refine z_aload0 dX12_told_104 ?_
    refine z_getRs fl_RX12_14 (by decide) hW.o (hW.r 1 rfl) dX12_told_105 ?_
    refine z_bipush (v := 10) dX12_told_108 (by decide) ?_
    refine zr_ld hW (i := 1) rfl (by decide) (by decide) (ixC 10) (by decide) dX12_told_110 ?_
    refine z_iret dX12_told_111 rfl ?_
    subst kk
    exact ⟨rfl, rfl, rfl, rfl, rfl⟩
  refine ⟨fun c1_6 => ?_, fun nc1_6 => ?_⟩
  · show zS _ _ _ _ _ _ _ 112 _ _ _ _ _
    have kk : x = 6 := c1_6
    refine z_aload0 dX12_told_112 ?_
    refine z_getRs fl_RX12_14 (by decide) hW.o (hW.r 1 rfl) dX12_told_113 ?_
    refine z_bipush (v := 11) dX12_told_116 (by decide) ?_
    refine zr_ld hW (i := 1) rfl (by decide) (by decide) (ixC 11) (by decide) dX12_told_118 ?_
    refine z_iret dX12_told_119 rfl ?_
    subst kk
    exact ⟨rfl, rfl, rfl, rfl, rfl⟩
  refine ⟨fun c1_7 => ?_, fun nc1_7 => ?_⟩
  · show zS _ _ _ _ _ _ _ 120 _ _ _ _ _
    have kk : x = 7 := c1_7
    refine z_aload0 dX12_told_120 ?_
    refine z_getRs fl_RX12_14 (by decide) hW.o (hW.r 1 rfl) dX12_told_121 ?_
    refine z_bipush (v := 12) dX12_told_124 (by decide) ?_
    refine zr_ld hW (i := 1) rfl (by decide) (by decide) (ixC 12) (by decide) dX12_told_126 ?_
    refine z_iret dX12_told_127 rfl ?_
    subst kk
    exact ⟨rfl, rfl, rfl, rfl, rfl⟩
  refine ⟨fun c1_8 => ?_, fun nc1_8 => ?_⟩
  · show zS _ _ _ _ _ _ _ 128 _ _ _ _ _
    have kk : x = 8 := c1_8
    refine z_aload0 dX12_told_128 ?_
    refine z_getRs fl_RX12_14 (by decide) hW.o (hW.r 1 rfl) dX12_told_129 ?_
    refine z_bipush (v := 13) dX12_told_132 (by decide) ?_
    refine zr_ld hW (i := 1) rfl (by decide) (by decide) (ixC 13) (by decide) dX12_told_134 ?_
    refine z_iret dX12_told_135 rfl ?_
    subst kk
    exact ⟨rfl, rfl, rfl, rfl, rfl⟩
  refine ⟨fun c1_9 => ?_, fun nc1_9 => ?_⟩
  · show zS _ _ _ _ _ _ _ 136 _ _ _ _ _
    have kk : x = 9 := c1_9
    refine z_aload0 dX12_told_136 ?_
    refine z_getRs fl_RX12_14 (by decide) hW.o (hW.r 1 rfl) dX12_told_137 ?_
    refine z_bipush (v := 14) dX12_told_140 (by decide) ?_
    refine zr_ld hW (i := 1) rfl (by decide) (by decide) (ixC 14) (by decide) dX12_told_142 ?_
    refine z_iret dX12_told_143 rfl ?_
    subst kk
    exact ⟨rfl, rfl, rfl, rfl, rfl⟩
  refine ⟨fun c1_10 => ?_, fun nc1_10 => ?_⟩
  · show zS _ _ _ _ _ _ _ 144 _ _ _ _ _
    have kk : x = 10 := c1_10
    refine z_aload0 dX12_told_144 ?_
    refine z_getRs fl_RX12_14 (by decide) hW.o (hW.r 1 rfl) dX12_told_145 ?_
    refine z_bipush (v := 15) dX12_told_148 (by decide) ?_
    refine zr_ld hW (i := 1) rfl (by decide) (by decide) (ixC 15) (by decide) dX12_told_150 ?_
    refine z_iret dX12_told_151 rfl ?_
    subst kk
    exact ⟨rfl, rfl, rfl, rfl, rfl⟩
  refine ⟨fun c1_11 => ?_, fun nc1_11 => ?_⟩
  · show zS _ _ _ _ _ _ _ 152 _ _ _ _ _
    have kk : x = 11 := c1_11
    refine z_aload0 dX12_told_152 ?_
    refine zr_getI fl_RX12_78 hW dX12_told_153 ?_
    refine z_iret dX12_told_156 rfl ?_
    subst kk
    exact ⟨rfl, rfl, rfl, rfl, rfl⟩
  refine ⟨fun c1_12 => ?_, fun nc1_12 => ?_⟩
  · show zS _ _ _ _ _ _ _ 157 _ _ _ _ _
    have kk : x = 12 := c1_12
    refine z_aload0 dX12_told_157 ?_
    refine z_callVi zmd_X12_defined rfl (by decide) zl_RX12_296 zin_X12_defined zsel_X12_defined (R_X12_defined (d := d - 1) hW ) hW.o rfl rfl (by omega) rfl dX12_told_158 ?_
    refine z_iret dX12_told_161 rfl ?_
    subst kk
    exact ⟨rfl, rfl, rfl, rfl, rfl⟩
  show zS _ _ _ _ _ _ _ 162 _ _ _ _ _
  refine z_iconst (v := (-1)) dX12_told_162 (by decide) ?_
  refine z_iret dX12_told_163 rfl ?_
  refine ⟨congrArg (fun z => some (Value.int z)) (show _ = ptold M x from ((if_neg nc1_0).trans ((if_neg nc1_1).trans ((if_neg nc1_2).trans ((if_neg nc1_3).trans ((if_neg nc1_4).trans ((if_neg nc1_5).trans ((if_neg nc1_6).trans ((if_neg nc1_7).trans ((if_neg nc1_8).trans ((if_neg nc1_9).trans ((if_neg nc1_10).trans ((if_neg nc1_11).trans ((if_neg nc1_12).trans (rfl)))))))))))))).symm), rfl, rfl, rfl, rfl⟩
def pvalue (M : zI) : Int32 := if M 2 5 = 2 ∨ M 2 5 = 3 ∨ (M 2 5 = 1 ∧ M 2 16 = 1) then M 2 20 else 0
def pfocus (M : zI) : Int32 := if M 2 5 = 1 then M 2 16 else 0
def ptrace (M : zI) (x : Int32) : Int32 := if x < 0 then -1 else if x < M 2 9 then M 2 (8430 + tn x) else -9
def pperfd (M : zI) (x : Int32) : Int32 := if x < 0 ∨ 5 < x then -1 else M 2 (24 + tn x)
def pprop (M : zI) (x : Int32) : Int32 := if pof M x 0 = 2 ∨ pof M x 0 = 13 then pof M x 4 else if pof M x 0 = 7 ∨ pof M x 0 = 8 ∨ pof M x 0 = 10 then parg M (pof M x 1) else if pof M x 0 = 9 then M 2 (7230 + tn (pof M x 4)) else if pof M x 0 = 11 ∨ pof M x 0 = 14 then puses M (pof M x 4) else if pof M x 0 = 12 then pclsA M (pof M x 1) 6 0 0 else -9
def ppropV (M : zI) (x : Int32) : Prop := iv 40000 x ∧ (pof M x 0 = 7 ∨ pof M x 0 = 8 ∨ pof M x 0 = 10 → iv 65000 (pof M x 1)) ∧ (pof M x 0 = 12 → iv 65000 (pof M x 1) ∧ pclOk M (pof M x 1)) ∧ (pof M x 0 = 9 → iv 1200 (pof M x 4)) ∧ (pof M x 0 = 11 ∨ pof M x 0 = 14 → iv 1200 (pof M x 4))
set_option maxRecDepth 20000 in
theorem R_X12_value {l : Launch} {d : Nat} {D : zD} {b0 : Nat} {g : zG} {f M : zI} {o : Nat} (hW : RW b0 g o)  : zM l d D b0 mX12_value [.ref o] g (rv o f M) (zEx (some (.int (pvalue M))) g (rv o f M)) := by
  refine zM.start zmd_X12_value (Nat.le_of_ble_eq_true rfl) ⟨rfl, trivial⟩ [some (.ref o), none] rfl ?_
  refine z_aload0 dX12_value_0 ?_
  refine z_getRs fl_RX12_14 (by decide) hW.o (hW.r 1 rfl) dX12_value_1 ?_
  refine z_iconst (v := 5) dX12_value_4 (by decide) ?_
  refine zr_ld hW (i := 1) rfl (by decide) (by decide) (ixC 5) (by decide) dX12_value_5 ?_
  refine z_iconst (v := 2) dX12_value_6 (by decide) ?_
  refine z_icmp_eq (tgt := 41) dX12_value_7 (by decide) (fun c7 => ?_) (fun c7 => ?_)
  · show zS _ _ _ _ _ _ _ 41 _ _ _ _ _
    refine z_iconst (v := 1) dX12_value_41 (by decide) ?_
    refine z_goto (tgt := 46) dX12_value_42 (by decide) ?_
    show zS _ _ _ _ _ _ _ 46 _ _ _ _ _
    refine z_istore1 dX12_value_46 ?_
    refine z_iload1 dX12_value_47 ?_
    refine z_if_eq (tgt := 61) dX12_value_48 (by decide) (fun c48 => ?_) (fun c48 => ?_)
    · show zS _ _ _ _ _ _ _ 61 _ _ _ _ _
      refine z_iconst (v := 0) dX12_value_61 (by decide) ?_
      refine z_iret dX12_value_62 rfl ?_
      refine ⟨congrArg (fun z => some (Value.int z)) ?_, rfl, rfl, rfl, rfl⟩
      unfold pvalue
      first | exact (if_pos (Or.inl (by assumption))).symm | exact (if_pos (Or.inr (Or.inl (by assumption)))).symm | exact (if_pos (Or.inr (Or.inr ⟨by assumption, by assumption⟩))).symm | exact absurd rfl (by assumption) | exact absurd (by assumption) (by decide) | exact (if_neg (fun q => q.elim (by assumption) (fun q => q.elim (by assumption) (fun q => (by assumption : ¬ M 2 5 = 1) q.1)))).symm | exact (if_neg (fun q => q.elim (by assumption) (fun q => q.elim (by assumption) (fun q => (by assumption : ¬ M 2 16 = 1) q.2)))).symm
    · show zS _ _ _ _ _ _ _ 51 _ _ _ _ _
      refine z_aload0 dX12_value_51 ?_
      refine z_getRs fl_RX12_14 (by decide) hW.o (hW.r 1 rfl) dX12_value_52 ?_
      refine z_bipush (v := 20) dX12_value_55 (by decide) ?_
      refine zr_ld hW (i := 1) rfl (by decide) (by decide) (ixC 20) (by decide) dX12_value_57 ?_
      refine z_goto (tgt := 62) dX12_value_58 (by decide) ?_
      show zS _ _ _ _ _ _ _ 62 _ _ _ _ _
      refine z_iret dX12_value_62 rfl ?_
      refine ⟨congrArg (fun z => some (Value.int z)) ?_, rfl, rfl, rfl, rfl⟩
      unfold pvalue
      first | exact (if_pos (Or.inl (by assumption))).symm | exact (if_pos (Or.inr (Or.inl (by assumption)))).symm | exact (if_pos (Or.inr (Or.inr ⟨by assumption, by assumption⟩))).symm | exact absurd rfl (by assumption) | exact absurd (by assumption) (by decide) | exact (if_neg (fun q => q.elim (by assumption) (fun q => q.elim (by assumption) (fun q => (by assumption : ¬ M 2 5 = 1) q.1)))).symm | exact (if_neg (fun q => q.elim (by assumption) (fun q => q.elim (by assumption) (fun q => (by assumption : ¬ M 2 16 = 1) q.2)))).symm
  · show zS _ _ _ _ _ _ _ 10 _ _ _ _ _
    refine z_aload0 dX12_value_10 ?_
    refine z_getRs fl_RX12_14 (by decide) hW.o (hW.r 1 rfl) dX12_value_11 ?_
    refine z_iconst (v := 5) dX12_value_14 (by decide) ?_
    refine zr_ld hW (i := 1) rfl (by decide) (by decide) (ixC 5) (by decide) dX12_value_15 ?_
    refine z_iconst (v := 3) dX12_value_16 (by decide) ?_
    refine z_icmp_eq (tgt := 41) dX12_value_17 (by decide) (fun c17 => ?_) (fun c17 => ?_)
    · show zS _ _ _ _ _ _ _ 41 _ _ _ _ _
      refine z_iconst (v := 1) dX12_value_41 (by decide) ?_
      refine z_goto (tgt := 46) dX12_value_42 (by decide) ?_
      show zS _ _ _ _ _ _ _ 46 _ _ _ _ _
      refine z_istore1 dX12_value_46 ?_
      refine z_iload1 dX12_value_47 ?_
      refine z_if_eq (tgt := 61) dX12_value_48 (by decide) (fun c48 => ?_) (fun c48 => ?_)
      · show zS _ _ _ _ _ _ _ 61 _ _ _ _ _
        refine z_iconst (v := 0) dX12_value_61 (by decide) ?_
        refine z_iret dX12_value_62 rfl ?_
        refine ⟨congrArg (fun z => some (Value.int z)) ?_, rfl, rfl, rfl, rfl⟩
        unfold pvalue
        first | exact (if_pos (Or.inl (by assumption))).symm | exact (if_pos (Or.inr (Or.inl (by assumption)))).symm | exact (if_pos (Or.inr (Or.inr ⟨by assumption, by assumption⟩))).symm | exact absurd rfl (by assumption) | exact absurd (by assumption) (by decide) | exact (if_neg (fun q => q.elim (by assumption) (fun q => q.elim (by assumption) (fun q => (by assumption : ¬ M 2 5 = 1) q.1)))).symm | exact (if_neg (fun q => q.elim (by assumption) (fun q => q.elim (by assumption) (fun q => (by assumption : ¬ M 2 16 = 1) q.2)))).symm
      · show zS _ _ _ _ _ _ _ 51 _ _ _ _ _
        refine z_aload0 dX12_value_51 ?_
        refine z_getRs fl_RX12_14 (by decide) hW.o (hW.r 1 rfl) dX12_value_52 ?_
        refine z_bipush (v := 20) dX12_value_55 (by decide) ?_
        refine zr_ld hW (i := 1) rfl (by decide) (by decide) (ixC 20) (by decide) dX12_value_57 ?_
        refine z_goto (tgt := 62) dX12_value_58 (by decide) ?_
        show zS _ _ _ _ _ _ _ 62 _ _ _ _ _
        refine z_iret dX12_value_62 rfl ?_
        refine ⟨congrArg (fun z => some (Value.int z)) ?_, rfl, rfl, rfl, rfl⟩
        unfold pvalue
        first | exact (if_pos (Or.inl (by assumption))).symm | exact (if_pos (Or.inr (Or.inl (by assumption)))).symm | exact (if_pos (Or.inr (Or.inr ⟨by assumption, by assumption⟩))).symm | exact absurd rfl (by assumption) | exact absurd (by assumption) (by decide) | exact (if_neg (fun q => q.elim (by assumption) (fun q => q.elim (by assumption) (fun q => (by assumption : ¬ M 2 5 = 1) q.1)))).symm | exact (if_neg (fun q => q.elim (by assumption) (fun q => q.elim (by assumption) (fun q => (by assumption : ¬ M 2 16 = 1) q.2)))).symm
    · show zS _ _ _ _ _ _ _ 20 _ _ _ _ _
      refine z_aload0 dX12_value_20 ?_
      refine z_getRs fl_RX12_14 (by decide) hW.o (hW.r 1 rfl) dX12_value_21 ?_
      refine z_iconst (v := 5) dX12_value_24 (by decide) ?_
      refine zr_ld hW (i := 1) rfl (by decide) (by decide) (ixC 5) (by decide) dX12_value_25 ?_
      refine z_iconst (v := 1) dX12_value_26 (by decide) ?_
      refine z_icmp_ne (tgt := 45) dX12_value_27 (by decide) (fun c27 => ?_) (fun c27 => ?_)
      · show zS _ _ _ _ _ _ _ 45 _ _ _ _ _
        refine z_iconst (v := 0) dX12_value_45 (by decide) ?_
        refine z_istore1 dX12_value_46 ?_
        refine z_iload1 dX12_value_47 ?_
        refine z_if_eq (tgt := 61) dX12_value_48 (by decide) (fun c48 => ?_) (fun c48 => ?_)
        · show zS _ _ _ _ _ _ _ 61 _ _ _ _ _
          refine z_iconst (v := 0) dX12_value_61 (by decide) ?_
          refine z_iret dX12_value_62 rfl ?_
          refine ⟨congrArg (fun z => some (Value.int z)) ?_, rfl, rfl, rfl, rfl⟩
          unfold pvalue
          first | exact (if_pos (Or.inl (by assumption))).symm | exact (if_pos (Or.inr (Or.inl (by assumption)))).symm | exact (if_pos (Or.inr (Or.inr ⟨by assumption, by assumption⟩))).symm | exact absurd rfl (by assumption) | exact absurd (by assumption) (by decide) | exact (if_neg (fun q => q.elim (by assumption) (fun q => q.elim (by assumption) (fun q => (by assumption : ¬ M 2 5 = 1) q.1)))).symm | exact (if_neg (fun q => q.elim (by assumption) (fun q => q.elim (by assumption) (fun q => (by assumption : ¬ M 2 16 = 1) q.2)))).symm
        · show zS _ _ _ _ _ _ _ 51 _ _ _ _ _
          refine z_aload0 dX12_value_51 ?_
          refine z_getRs fl_RX12_14 (by decide) hW.o (hW.r 1 rfl) dX12_value_52 ?_
          refine z_bipush (v := 20) dX12_value_55 (by decide) ?_
          refine zr_ld hW (i := 1) rfl (by decide) (by decide) (ixC 20) (by decide) dX12_value_57 ?_
          refine z_goto (tgt := 62) dX12_value_58 (by decide) ?_
          show zS _ _ _ _ _ _ _ 62 _ _ _ _ _
          refine z_iret dX12_value_62 rfl ?_
          refine ⟨congrArg (fun z => some (Value.int z)) ?_, rfl, rfl, rfl, rfl⟩
          unfold pvalue
          first | exact (if_pos (Or.inl (by assumption))).symm | exact (if_pos (Or.inr (Or.inl (by assumption)))).symm | exact (if_pos (Or.inr (Or.inr ⟨by assumption, by assumption⟩))).symm | exact absurd rfl (by assumption) | exact absurd (by assumption) (by decide) | exact (if_neg (fun q => q.elim (by assumption) (fun q => q.elim (by assumption) (fun q => (by assumption : ¬ M 2 5 = 1) q.1)))).symm | exact (if_neg (fun q => q.elim (by assumption) (fun q => q.elim (by assumption) (fun q => (by assumption : ¬ M 2 16 = 1) q.2)))).symm
      · show zS _ _ _ _ _ _ _ 30 _ _ _ _ _
        refine z_aload0 dX12_value_30 ?_
        refine z_getRs fl_RX12_14 (by decide) hW.o (hW.r 1 rfl) dX12_value_31 ?_
        refine z_bipush (v := 16) dX12_value_34 (by decide) ?_
        refine zr_ld hW (i := 1) rfl (by decide) (by decide) (ixC 16) (by decide) dX12_value_36 ?_
        refine z_iconst (v := 1) dX12_value_37 (by decide) ?_
        refine z_icmp_ne (tgt := 45) dX12_value_38 (by decide) (fun c38 => ?_) (fun c38 => ?_)
        · show zS _ _ _ _ _ _ _ 45 _ _ _ _ _
          refine z_iconst (v := 0) dX12_value_45 (by decide) ?_
          refine z_istore1 dX12_value_46 ?_
          refine z_iload1 dX12_value_47 ?_
          refine z_if_eq (tgt := 61) dX12_value_48 (by decide) (fun c48 => ?_) (fun c48 => ?_)
          · show zS _ _ _ _ _ _ _ 61 _ _ _ _ _
            refine z_iconst (v := 0) dX12_value_61 (by decide) ?_
            refine z_iret dX12_value_62 rfl ?_
            refine ⟨congrArg (fun z => some (Value.int z)) ?_, rfl, rfl, rfl, rfl⟩
            unfold pvalue
            first | exact (if_pos (Or.inl (by assumption))).symm | exact (if_pos (Or.inr (Or.inl (by assumption)))).symm | exact (if_pos (Or.inr (Or.inr ⟨by assumption, by assumption⟩))).symm | exact absurd rfl (by assumption) | exact absurd (by assumption) (by decide) | exact (if_neg (fun q => q.elim (by assumption) (fun q => q.elim (by assumption) (fun q => (by assumption : ¬ M 2 5 = 1) q.1)))).symm | exact (if_neg (fun q => q.elim (by assumption) (fun q => q.elim (by assumption) (fun q => (by assumption : ¬ M 2 16 = 1) q.2)))).symm
          · show zS _ _ _ _ _ _ _ 51 _ _ _ _ _
            refine z_aload0 dX12_value_51 ?_
            refine z_getRs fl_RX12_14 (by decide) hW.o (hW.r 1 rfl) dX12_value_52 ?_
            refine z_bipush (v := 20) dX12_value_55 (by decide) ?_
            refine zr_ld hW (i := 1) rfl (by decide) (by decide) (ixC 20) (by decide) dX12_value_57 ?_
            refine z_goto (tgt := 62) dX12_value_58 (by decide) ?_
            show zS _ _ _ _ _ _ _ 62 _ _ _ _ _
            refine z_iret dX12_value_62 rfl ?_
            refine ⟨congrArg (fun z => some (Value.int z)) ?_, rfl, rfl, rfl, rfl⟩
            unfold pvalue
            first | exact (if_pos (Or.inl (by assumption))).symm | exact (if_pos (Or.inr (Or.inl (by assumption)))).symm | exact (if_pos (Or.inr (Or.inr ⟨by assumption, by assumption⟩))).symm | exact absurd rfl (by assumption) | exact absurd (by assumption) (by decide) | exact (if_neg (fun q => q.elim (by assumption) (fun q => q.elim (by assumption) (fun q => (by assumption : ¬ M 2 5 = 1) q.1)))).symm | exact (if_neg (fun q => q.elim (by assumption) (fun q => q.elim (by assumption) (fun q => (by assumption : ¬ M 2 16 = 1) q.2)))).symm
        · show zS _ _ _ _ _ _ _ 41 _ _ _ _ _
          refine z_iconst (v := 1) dX12_value_41 (by decide) ?_
          refine z_goto (tgt := 46) dX12_value_42 (by decide) ?_
          show zS _ _ _ _ _ _ _ 46 _ _ _ _ _
          refine z_istore1 dX12_value_46 ?_
          refine z_iload1 dX12_value_47 ?_
          refine z_if_eq (tgt := 61) dX12_value_48 (by decide) (fun c48 => ?_) (fun c48 => ?_)
          · show zS _ _ _ _ _ _ _ 61 _ _ _ _ _
            refine z_iconst (v := 0) dX12_value_61 (by decide) ?_
            refine z_iret dX12_value_62 rfl ?_
            refine ⟨congrArg (fun z => some (Value.int z)) ?_, rfl, rfl, rfl, rfl⟩
            unfold pvalue
            first | exact (if_pos (Or.inl (by assumption))).symm | exact (if_pos (Or.inr (Or.inl (by assumption)))).symm | exact (if_pos (Or.inr (Or.inr ⟨by assumption, by assumption⟩))).symm | exact absurd rfl (by assumption) | exact absurd (by assumption) (by decide) | exact (if_neg (fun q => q.elim (by assumption) (fun q => q.elim (by assumption) (fun q => (by assumption : ¬ M 2 5 = 1) q.1)))).symm | exact (if_neg (fun q => q.elim (by assumption) (fun q => q.elim (by assumption) (fun q => (by assumption : ¬ M 2 16 = 1) q.2)))).symm
          · show zS _ _ _ _ _ _ _ 51 _ _ _ _ _
            refine z_aload0 dX12_value_51 ?_
            refine z_getRs fl_RX12_14 (by decide) hW.o (hW.r 1 rfl) dX12_value_52 ?_
            refine z_bipush (v := 20) dX12_value_55 (by decide) ?_
            refine zr_ld hW (i := 1) rfl (by decide) (by decide) (ixC 20) (by decide) dX12_value_57 ?_
            refine z_goto (tgt := 62) dX12_value_58 (by decide) ?_
            show zS _ _ _ _ _ _ _ 62 _ _ _ _ _
            refine z_iret dX12_value_62 rfl ?_
            refine ⟨congrArg (fun z => some (Value.int z)) ?_, rfl, rfl, rfl, rfl⟩
            unfold pvalue
            first | exact (if_pos (Or.inl (by assumption))).symm | exact (if_pos (Or.inr (Or.inl (by assumption)))).symm | exact (if_pos (Or.inr (Or.inr ⟨by assumption, by assumption⟩))).symm | exact absurd rfl (by assumption) | exact absurd (by assumption) (by decide) | exact (if_neg (fun q => q.elim (by assumption) (fun q => q.elim (by assumption) (fun q => (by assumption : ¬ M 2 5 = 1) q.1)))).symm | exact (if_neg (fun q => q.elim (by assumption) (fun q => q.elim (by assumption) (fun q => (by assumption : ¬ M 2 16 = 1) q.2)))).symm
set_option maxRecDepth 20000 in
theorem R_X12_focus {l : Launch} {d : Nat} {D : zD} {b0 : Nat} {g : zG} {f M : zI} {o : Nat} (hW : RW b0 g o)  : zM l d D b0 mX12_focus [.ref o] g (rv o f M) (zEx (some (.int (pfocus M))) g (rv o f M)) := by
  refine zM.start zmd_X12_focus (Nat.le_of_ble_eq_true rfl) ⟨rfl, trivial⟩ [some (.ref o)] rfl ?_
  refine z_aload0 dX12_focus_0 ?_
  refine z_getRs fl_RX12_14 (by decide) hW.o (hW.r 1 rfl) dX12_focus_1 ?_
  refine z_iconst (v := 5) dX12_focus_4 (by decide) ?_
  refine zr_ld hW (i := 1) rfl (by decide) (by decide) (ixC 5) (by decide) dX12_focus_5 ?_
  refine z_iconst (v := 1) dX12_focus_6 (by decide) ?_
  refine z_icmp_ne (tgt := 20) dX12_focus_7 (by decide) (fun c7 => ?_) (fun c7 => ?_)
  · show zS _ _ _ _ _ _ _ 20 _ _ _ _ _
    refine z_iconst (v := 0) dX12_focus_20 (by decide) ?_
    refine z_iret dX12_focus_21 rfl ?_
    refine ⟨congrArg (fun z => some (Value.int z)) ?_, rfl, rfl, rfl, rfl⟩
    first | exact (if_pos (by assumption)).symm | exact (if_neg (by assumption)).symm
  · show zS _ _ _ _ _ _ _ 10 _ _ _ _ _
    refine z_aload0 dX12_focus_10 ?_
    refine z_getRs fl_RX12_14 (by decide) hW.o (hW.r 1 rfl) dX12_focus_11 ?_
    refine z_bipush (v := 16) dX12_focus_14 (by decide) ?_
    refine zr_ld hW (i := 1) rfl (by decide) (by decide) (ixC 16) (by decide) dX12_focus_16 ?_
    refine z_goto (tgt := 21) dX12_focus_17 (by decide) ?_
    show zS _ _ _ _ _ _ _ 21 _ _ _ _ _
    refine z_iret dX12_focus_21 rfl ?_
    refine ⟨congrArg (fun z => some (Value.int z)) ?_, rfl, rfl, rfl, rfl⟩
    first | exact (if_pos (by assumption)).symm | exact (if_neg (by assumption)).symm
set_option maxRecDepth 20000 in
theorem R_X12_trace {l : Launch} {d : Nat} {D : zD} {b0 : Nat} {g : zG} {f M : zI} {o : Nat} (hW : RW b0 g o) (x : Int32) (hT : iv 61 (M 2 9)) : zM l d D b0 mX12_trace [.ref o, .int x] g (rv o f M) (zEx (some (.int (ptrace M x))) g (rv o f M)) := by
  refine zM.start zmd_X12_trace (Nat.le_of_ble_eq_true rfl) ⟨rfl, rfl, trivial⟩ [some (.ref o), some (.int x)] rfl ?_
  refine z_iload1 dX12_trace_0 ?_
  refine z_if_ge (tgt := 6) dX12_trace_1 (by decide) (fun c1 => ?_) (fun c1 => ?_)
  · show zS _ _ _ _ _ _ _ 6 _ _ _ _ _
    have c1n : (0 : Int32) ≤ x := Int32.not_lt.mp c1
    refine z_iload1 dX12_trace_6 ?_
    refine z_aload0 dX12_trace_7 ?_
    refine z_getRs fl_RX12_14 (by decide) hW.o (hW.r 1 rfl) dX12_trace_8 ?_
    refine z_bipush (v := 9) dX12_trace_11 (by decide) ?_
    refine zr_ld hW (i := 1) rfl (by decide) (by decide) (ixC 9) (by decide) dX12_trace_13 ?_
    refine z_icmp_ge (tgt := 30) dX12_trace_14 (by decide) (fun c14 => ?_) (fun c14 => ?_)
    · show zS _ _ _ _ _ _ _ 30 _ _ _ _ _
      refine z_bipush (v := (-9)) dX12_trace_30 (by decide) ?_
      refine z_iret dX12_trace_32 rfl ?_
      refine ⟨congrArg (fun z => some (Value.int z)) ?_, rfl, rfl, rfl, rfl⟩
      unfold ptrace
      first | exact ((if_neg (Int32.not_lt.mpr c1n)).trans (if_pos c14)).symm | exact ((if_neg (Int32.not_lt.mpr c1n)).trans (if_neg c14)).symm | exact (if_pos c1).symm
    · show zS _ _ _ _ _ _ _ 17 _ _ _ _ _
      have hi : iv 60 x := by
        obtain ⟨j, h1, rfl⟩ := nI_of (Int32.not_lt.mpr c1n)
        have c := c14
        rw [hT.2] at c
        exact iv_nI (by have := (nI_ltI h1 (by have := hT.1; omega)).mp c; have := hT.1; omega) (by decide)
      have hi1 := hi.1
      refine z_aload0 dX12_trace_17 ?_
      refine z_getRs fl_RX12_14 (by decide) hW.o (hW.r 1 rfl) dX12_trace_18 ?_
      refine z_sipush (v := 8430) dX12_trace_21 (by decide) ?_
      refine z_iload1 dX12_trace_24 ?_
      refine z_iadd dX12_trace_25 ?_
      refine zr_ld hW (i := 1) rfl (by decide) (by decide) (ixA (ixC 8430) hi.2) (by omega) dX12_trace_26 ?_
      refine z_goto (tgt := 32) dX12_trace_27 (by decide) ?_
      show zS _ _ _ _ _ _ _ 32 _ _ _ _ _
      refine z_iret dX12_trace_32 rfl ?_
      refine ⟨congrArg (fun z => some (Value.int z)) ?_, rfl, rfl, rfl, rfl⟩
      unfold ptrace
      first | exact ((if_neg (Int32.not_lt.mpr c1n)).trans (if_pos c14)).symm | exact ((if_neg (Int32.not_lt.mpr c1n)).trans (if_neg c14)).symm | exact (if_pos c1).symm
  · show zS _ _ _ _ _ _ _ 4 _ _ _ _ _
    refine z_iconst (v := (-1)) dX12_trace_4 (by decide) ?_
    refine z_iret dX12_trace_5 rfl ?_
    refine ⟨congrArg (fun z => some (Value.int z)) ?_, rfl, rfl, rfl, rfl⟩
    unfold ptrace
    first | exact ((if_neg (Int32.not_lt.mpr c1n)).trans (if_pos c14)).symm | exact ((if_neg (Int32.not_lt.mpr c1n)).trans (if_neg c14)).symm | exact (if_pos c1).symm
set_option maxRecDepth 20000 in
theorem R_X12_performed {l : Launch} {d : Nat} {D : zD} {b0 : Nat} {g : zG} {f M : zI} {o : Nat} (hW : RW b0 g o) (x : Int32) (hd : 1 ≤ d) : zM l d D b0 mX12_performed [.ref o, .int x] g (rv o f M) (zEx (some (.int (pperfd M x))) g (rv o f M)) := by
  refine zM.start zmd_X12_performed (Nat.le_of_ble_eq_true rfl) ⟨rfl, rfl, trivial⟩ [some (.ref o), some (.int x)] rfl ?_
  refine z_iload1 dX12_performed_0 ?_
  refine z_iconst (v := 0) dX12_performed_1 (by decide) ?_
  refine z_iconst (v := 5) dX12_performed_2 (by decide) ?_
  refine z_callSi zmd_X12_isIn zl_RX12_74 zst_X12_isIn (R_X12_isIn (d := d - 1) hW _ _ _) rfl rfl (by omega) rfl dX12_performed_3 ?_
  refine z_if_eq (tgt := 21) dX12_performed_6 (by decide) (fun c6 => ?_) (fun c6 => ?_)
  · show zS _ _ _ _ _ _ _ 21 _ _ _ _ _
    refine z_iconst (v := (-1)) dX12_performed_21 (by decide) ?_
    refine z_iret dX12_performed_22 rfl ?_
    refine ⟨congrArg (fun z => some (Value.int z)) ?_, rfl, rfl, rfl, rfl⟩
    unfold pperfd
    first | exact (if_neg (zByes c6)).symm | exact (if_pos (zBno c6)).symm
  · show zS _ _ _ _ _ _ _ 9 _ _ _ _ _
    have hi : iv 6 x := iv_of (n := 5) (by decide) (zByes c6)
    have hi1 := hi.1
    refine z_aload0 dX12_performed_9 ?_
    refine z_getRs fl_RX12_14 (by decide) hW.o (hW.r 1 rfl) dX12_performed_10 ?_
    refine z_bipush (v := 24) dX12_performed_13 (by decide) ?_
    refine z_iload1 dX12_performed_15 ?_
    refine z_iadd dX12_performed_16 ?_
    refine zr_ld hW (i := 1) rfl (by decide) (by decide) (ixA (ixC 24) hi.2) (by omega) dX12_performed_17 ?_
    refine z_goto (tgt := 22) dX12_performed_18 (by decide) ?_
    show zS _ _ _ _ _ _ _ 22 _ _ _ _ _
    refine z_iret dX12_performed_22 rfl ?_
    refine ⟨congrArg (fun z => some (Value.int z)) ?_, rfl, rfl, rfl, rfl⟩
    unfold pperfd
    first | exact (if_neg (zByes c6)).symm | exact (if_pos (zBno c6)).symm
theorem pprop_k {M : zI} {x : Int32} {k : Int32} (h : pof M x 0 = k) : pprop M x = (if k = 2 ∨ k = 13 then pof M x 4 else if k = 7 ∨ k = 8 ∨ k = 10 then parg M (pof M x 1) else if k = 9 then M 2 (7230 + tn (pof M x 4)) else if k = 11 ∨ k = 14 then puses M (pof M x 4) else if k = 12 then pclsA M (pof M x 1) 6 0 0 else -9) := by
  unfold pprop
  rw [h]
set_option maxRecDepth 20000 in
theorem R_X12_property {l : Launch} {d : Nat} {D : zD} {b0 : Nat} {g : zG} {f M : zI} {o : Nat} (hW : RW b0 g o) (x : Int32) (hV : ppropV M x) (hd : 2 ≤ d) : zM l d D b0 mX12_property [.ref o, .int x] g (rv o f M) (zEx (some (.int (pprop M x))) g (rv o f M)) := by
  obtain ⟨hx, h7, h12, h9, h11⟩ := hV
  refine zM.start zmd_X12_property (Nat.le_of_ble_eq_true rfl) ⟨rfl, rfl, trivial⟩ [some (.ref o), some (.int x)] rfl ?_
  refine z_aload0 dX12_property_0 ?_
  refine z_iload1 dX12_property_1 ?_
  refine z_iconst (v := 0) dX12_property_2 (by decide) ?_
  refine z_callVi zmd_X12_of rfl (by decide) zl_RX12_213 zin_X12_of zsel_X12_of (R_X12_of (d := d - 1) hW _ hx _ (⟨by decide, by decide⟩ : iv 7 (0 : Int32))) hW.o rfl rfl (by omega) rfl dX12_property_3 ?_
  refine z_tab dX12_property_6 (by decide +kernel) (by decide +kernel) ?_
  refine ⟨fun c6_0 => ?_, fun nc6_0 => ?_⟩
  · show zS _ _ _ _ _ _ _ 72 _ _ _ _ _
    have kk : pof M x 0 = 2 ∨ pof M x 0 = 13 := by first | exact Or.inl c6_0 | exact Or.inr c6_11
    refine z_aload0 dX12_property_72 ?_
    refine z_iload1 dX12_property_73 ?_
    refine z_iconst (v := 4) dX12_property_74 (by decide) ?_
    refine z_callVi zmd_X12_of rfl (by decide) zl_RX12_213 zin_X12_of zsel_X12_of (R_X12_of (d := d - 1) hW _ hx _ (⟨by decide, by decide⟩ : iv 7 (4 : Int32))) hW.o rfl rfl (by omega) rfl dX12_property_75 ?_
    refine z_iret dX12_property_78 rfl ?_
    refine ⟨congrArg (fun z => some (Value.int z)) ?_, rfl, rfl, rfl, rfl⟩
    rcases kk with kk | kk <;> (rw [pprop_k kk]; rfl)
  refine ⟨fun c6_1 => ?_, fun nc6_1 => ?_⟩
  · show zS _ _ _ _ _ _ _ 128 _ _ _ _ _
    refine z_bipush (v := (-9)) dX12_property_128 (by decide) ?_
    refine z_iret dX12_property_130 rfl ?_
    refine ⟨congrArg (fun z => some (Value.int z)) ?_, rfl, rfl, rfl, rfl⟩
    first | (rw [pprop_k (show pof M x 0 = 3 from c6_1)]; rfl) | (rw [pprop_k (show pof M x 0 = 4 from c6_2)]; rfl) | (rw [pprop_k (show pof M x 0 = 5 from c6_3)]; rfl) | (rw [pprop_k (show pof M x 0 = 6 from c6_4)]; rfl) | exact ((if_neg (fun q => q.elim nc6_0 nc6_11)).trans ((if_neg (fun q => q.elim nc6_5 (fun q => q.elim nc6_6 nc6_8))).trans ((if_neg nc6_7).trans ((if_neg (fun q => q.elim nc6_9 nc6_12)).trans (if_neg nc6_10))))).symm
  refine ⟨fun c6_2 => ?_, fun nc6_2 => ?_⟩
  · show zS _ _ _ _ _ _ _ 128 _ _ _ _ _
    refine z_bipush (v := (-9)) dX12_property_128 (by decide) ?_
    refine z_iret dX12_property_130 rfl ?_
    refine ⟨congrArg (fun z => some (Value.int z)) ?_, rfl, rfl, rfl, rfl⟩
    first | (rw [pprop_k (show pof M x 0 = 3 from c6_1)]; rfl) | (rw [pprop_k (show pof M x 0 = 4 from c6_2)]; rfl) | (rw [pprop_k (show pof M x 0 = 5 from c6_3)]; rfl) | (rw [pprop_k (show pof M x 0 = 6 from c6_4)]; rfl) | exact ((if_neg (fun q => q.elim nc6_0 nc6_11)).trans ((if_neg (fun q => q.elim nc6_5 (fun q => q.elim nc6_6 nc6_8))).trans ((if_neg nc6_7).trans ((if_neg (fun q => q.elim nc6_9 nc6_12)).trans (if_neg nc6_10))))).symm
  refine ⟨fun c6_3 => ?_, fun nc6_3 => ?_⟩
  · show zS _ _ _ _ _ _ _ 128 _ _ _ _ _
    refine z_bipush (v := (-9)) dX12_property_128 (by decide) ?_
    refine z_iret dX12_property_130 rfl ?_
    refine ⟨congrArg (fun z => some (Value.int z)) ?_, rfl, rfl, rfl, rfl⟩
    first | (rw [pprop_k (show pof M x 0 = 3 from c6_1)]; rfl) | (rw [pprop_k (show pof M x 0 = 4 from c6_2)]; rfl) | (rw [pprop_k (show pof M x 0 = 5 from c6_3)]; rfl) | (rw [pprop_k (show pof M x 0 = 6 from c6_4)]; rfl) | exact ((if_neg (fun q => q.elim nc6_0 nc6_11)).trans ((if_neg (fun q => q.elim nc6_5 (fun q => q.elim nc6_6 nc6_8))).trans ((if_neg nc6_7).trans ((if_neg (fun q => q.elim nc6_9 nc6_12)).trans (if_neg nc6_10))))).symm
  refine ⟨fun c6_4 => ?_, fun nc6_4 => ?_⟩
  · show zS _ _ _ _ _ _ _ 128 _ _ _ _ _
    refine z_bipush (v := (-9)) dX12_property_128 (by decide) ?_
    refine z_iret dX12_property_130 rfl ?_
    refine ⟨congrArg (fun z => some (Value.int z)) ?_, rfl, rfl, rfl, rfl⟩
    first | (rw [pprop_k (show pof M x 0 = 3 from c6_1)]; rfl) | (rw [pprop_k (show pof M x 0 = 4 from c6_2)]; rfl) | (rw [pprop_k (show pof M x 0 = 5 from c6_3)]; rfl) | (rw [pprop_k (show pof M x 0 = 6 from c6_4)]; rfl) | exact ((if_neg (fun q => q.elim nc6_0 nc6_11)).trans ((if_neg (fun q => q.elim nc6_5 (fun q => q.elim nc6_6 nc6_8))).trans ((if_neg nc6_7).trans ((if_neg (fun q => q.elim nc6_9 nc6_12)).trans (if_neg nc6_10))))).symm
  refine ⟨fun c6_5 => ?_, fun nc6_5 => ?_⟩
  · show zS _ _ _ _ _ _ _ 79 _ _ _ _ _
    have kk : pof M x 0 = 7 ∨ pof M x 0 = 8 ∨ pof M x 0 = 10 := by first | exact Or.inl c6_5 | exact Or.inr (Or.inl c6_6) | exact Or.inr (Or.inr c6_8)
    refine z_aload0 dX12_property_79 ?_
    refine z_aload0 dX12_property_80 ?_
    refine z_iload1 dX12_property_81 ?_
    refine z_iconst (v := 1) dX12_property_82 (by decide) ?_
    refine z_callVi zmd_X12_of rfl (by decide) zl_RX12_213 zin_X12_of zsel_X12_of (R_X12_of (d := d - 1) hW _ hx _ (⟨by decide, by decide⟩ : iv 7 (1 : Int32))) hW.o rfl rfl (by omega) rfl dX12_property_83 ?_
    refine z_callVi zmd_X12_argument rfl (by decide) zl_RX12_137 zin_X12_argument zsel_X12_argument (R_X12_argument (d := d - 1) hW _ (h7 kk)) hW.o rfl rfl (by omega) rfl dX12_property_86 ?_
    refine z_iret dX12_property_89 rfl ?_
    refine ⟨congrArg (fun z => some (Value.int z)) ?_, rfl, rfl, rfl, rfl⟩
    rcases kk with kk | kk | kk <;> (rw [pprop_k kk]; rfl)
  refine ⟨fun c6_6 => ?_, fun nc6_6 => ?_⟩
  · show zS _ _ _ _ _ _ _ 79 _ _ _ _ _
    have kk : pof M x 0 = 7 ∨ pof M x 0 = 8 ∨ pof M x 0 = 10 := by first | exact Or.inl c6_5 | exact Or.inr (Or.inl c6_6) | exact Or.inr (Or.inr c6_8)
    refine z_aload0 dX12_property_79 ?_
    refine z_aload0 dX12_property_80 ?_
    refine z_iload1 dX12_property_81 ?_
    refine z_iconst (v := 1) dX12_property_82 (by decide) ?_
    refine z_callVi zmd_X12_of rfl (by decide) zl_RX12_213 zin_X12_of zsel_X12_of (R_X12_of (d := d - 1) hW _ hx _ (⟨by decide, by decide⟩ : iv 7 (1 : Int32))) hW.o rfl rfl (by omega) rfl dX12_property_83 ?_
    refine z_callVi zmd_X12_argument rfl (by decide) zl_RX12_137 zin_X12_argument zsel_X12_argument (R_X12_argument (d := d - 1) hW _ (h7 kk)) hW.o rfl rfl (by omega) rfl dX12_property_86 ?_
    refine z_iret dX12_property_89 rfl ?_
    refine ⟨congrArg (fun z => some (Value.int z)) ?_, rfl, rfl, rfl, rfl⟩
    rcases kk with kk | kk | kk <;> (rw [pprop_k kk]; rfl)
  refine ⟨fun c6_7 => ?_, fun nc6_7 => ?_⟩
  · show zS _ _ _ _ _ _ _ 90 _ _ _ _ _
    have kk : pof M x 0 = 9 := c6_7
    have h91 := (h9 kk).1
    refine z_aload0 dX12_property_90 ?_
    refine z_getRs fl_RX12_14 (by decide) hW.o (hW.r 1 rfl) dX12_property_91 ?_
    refine z_sipush (v := 7230) dX12_property_94 (by decide) ?_
    refine z_aload0 dX12_property_97 ?_
    refine z_iload1 dX12_property_98 ?_
    refine z_iconst (v := 4) dX12_property_99 (by decide) ?_
    refine z_callVi zmd_X12_of rfl (by decide) zl_RX12_213 zin_X12_of zsel_X12_of (R_X12_of (d := d - 1) hW _ hx _ (⟨by decide, by decide⟩ : iv 7 (4 : Int32))) hW.o rfl rfl (by omega) rfl dX12_property_100 ?_
    refine z_iadd dX12_property_103 ?_
    refine zr_ld hW (i := 1) rfl (by decide) (by decide) (ixA (ixC 7230) (h9 kk).2) (by omega) dX12_property_104 ?_
    refine z_iret dX12_property_105 rfl ?_
    refine ⟨congrArg (fun z => some (Value.int z)) ?_, rfl, rfl, rfl, rfl⟩
    rw [pprop_k kk]; rfl
  refine ⟨fun c6_8 => ?_, fun nc6_8 => ?_⟩
  · show zS _ _ _ _ _ _ _ 79 _ _ _ _ _
    have kk : pof M x 0 = 7 ∨ pof M x 0 = 8 ∨ pof M x 0 = 10 := by first | exact Or.inl c6_5 | exact Or.inr (Or.inl c6_6) | exact Or.inr (Or.inr c6_8)
    refine z_aload0 dX12_property_79 ?_
    refine z_aload0 dX12_property_80 ?_
    refine z_iload1 dX12_property_81 ?_
    refine z_iconst (v := 1) dX12_property_82 (by decide) ?_
    refine z_callVi zmd_X12_of rfl (by decide) zl_RX12_213 zin_X12_of zsel_X12_of (R_X12_of (d := d - 1) hW _ hx _ (⟨by decide, by decide⟩ : iv 7 (1 : Int32))) hW.o rfl rfl (by omega) rfl dX12_property_83 ?_
    refine z_callVi zmd_X12_argument rfl (by decide) zl_RX12_137 zin_X12_argument zsel_X12_argument (R_X12_argument (d := d - 1) hW _ (h7 kk)) hW.o rfl rfl (by omega) rfl dX12_property_86 ?_
    refine z_iret dX12_property_89 rfl ?_
    refine ⟨congrArg (fun z => some (Value.int z)) ?_, rfl, rfl, rfl, rfl⟩
    rcases kk with kk | kk | kk <;> (rw [pprop_k kk]; rfl)
  refine ⟨fun c6_9 => ?_, fun nc6_9 => ?_⟩
  · show zS _ _ _ _ _ _ _ 106 _ _ _ _ _
    have kk : pof M x 0 = 11 ∨ pof M x 0 = 14 := by first | exact Or.inl c6_9 | exact Or.inr c6_12
    refine z_aload0 dX12_property_106 ?_
    refine z_aload0 dX12_property_107 ?_
    refine z_iload1 dX12_property_108 ?_
    refine z_iconst (v := 4) dX12_property_109 (by decide) ?_
    refine z_callVi zmd_X12_of rfl (by decide) zl_RX12_213 zin_X12_of zsel_X12_of (R_X12_of (d := d - 1) hW _ hx _ (⟨by decide, by decide⟩ : iv 7 (4 : Int32))) hW.o rfl rfl (by omega) rfl dX12_property_110 ?_
    refine z_callVi zmd_X12_uses rfl (by decide) zl_RX12_232 zin_X12_uses zsel_X12_uses (R_X12_uses (d := d - 1) hW _ (h11 kk)) hW.o rfl rfl (by omega) rfl dX12_property_113 ?_
    refine z_iret dX12_property_116 rfl ?_
    refine ⟨congrArg (fun z => some (Value.int z)) ?_, rfl, rfl, rfl, rfl⟩
    rcases kk with kk | kk <;> (rw [pprop_k kk]; rfl)
  refine ⟨fun c6_10 => ?_, fun nc6_10 => ?_⟩
  · show zS _ _ _ _ _ _ _ 117 _ _ _ _ _
    have kk : pof M x 0 = 12 := c6_10
    refine z_aload0 dX12_property_117 ?_
    refine z_aload0 dX12_property_118 ?_
    refine z_iload1 dX12_property_119 ?_
    refine z_iconst (v := 1) dX12_property_120 (by decide) ?_
    refine z_callVi zmd_X12_of rfl (by decide) zl_RX12_213 zin_X12_of zsel_X12_of (R_X12_of (d := d - 1) hW _ hx _ (⟨by decide, by decide⟩ : iv 7 (1 : Int32))) hW.o rfl rfl (by omega) rfl dX12_property_121 ?_
    refine z_callVi zmd_X12_clauses rfl (by decide) zl_RX12_299 zin_X12_clauses zsel_X12_clauses (R_X12_clauses (d := d - 1) hW _ (h12 kk).1 (h12 kk).2 (by omega)) hW.o rfl rfl (by omega) rfl dX12_property_124 ?_
    refine z_iret dX12_property_127 rfl ?_
    refine ⟨congrArg (fun z => some (Value.int z)) ?_, rfl, rfl, rfl, rfl⟩
    rw [pprop_k kk]; rfl
  refine ⟨fun c6_11 => ?_, fun nc6_11 => ?_⟩
  · show zS _ _ _ _ _ _ _ 72 _ _ _ _ _
    have kk : pof M x 0 = 2 ∨ pof M x 0 = 13 := by first | exact Or.inl c6_0 | exact Or.inr c6_11
    refine z_aload0 dX12_property_72 ?_
    refine z_iload1 dX12_property_73 ?_
    refine z_iconst (v := 4) dX12_property_74 (by decide) ?_
    refine z_callVi zmd_X12_of rfl (by decide) zl_RX12_213 zin_X12_of zsel_X12_of (R_X12_of (d := d - 1) hW _ hx _ (⟨by decide, by decide⟩ : iv 7 (4 : Int32))) hW.o rfl rfl (by omega) rfl dX12_property_75 ?_
    refine z_iret dX12_property_78 rfl ?_
    refine ⟨congrArg (fun z => some (Value.int z)) ?_, rfl, rfl, rfl, rfl⟩
    rcases kk with kk | kk <;> (rw [pprop_k kk]; rfl)
  refine ⟨fun c6_12 => ?_, fun nc6_12 => ?_⟩
  · show zS _ _ _ _ _ _ _ 106 _ _ _ _ _
    have kk : pof M x 0 = 11 ∨ pof M x 0 = 14 := by first | exact Or.inl c6_9 | exact Or.inr c6_12
    refine z_aload0 dX12_property_106 ?_
    refine z_aload0 dX12_property_107 ?_
    refine z_iload1 dX12_property_108 ?_
    refine z_iconst (v := 4) dX12_property_109 (by decide) ?_
    refine z_callVi zmd_X12_of rfl (by decide) zl_RX12_213 zin_X12_of zsel_X12_of (R_X12_of (d := d - 1) hW _ hx _ (⟨by decide, by decide⟩ : iv 7 (4 : Int32))) hW.o rfl rfl (by omega) rfl dX12_property_110 ?_
    refine z_callVi zmd_X12_uses rfl (by decide) zl_RX12_232 zin_X12_uses zsel_X12_uses (R_X12_uses (d := d - 1) hW _ (h11 kk)) hW.o rfl rfl (by omega) rfl dX12_property_113 ?_
    refine z_iret dX12_property_116 rfl ?_
    refine ⟨congrArg (fun z => some (Value.int z)) ?_, rfl, rfl, rfl, rfl⟩
    rcases kk with kk | kk <;> (rw [pprop_k kk]; rfl)
  show zS _ _ _ _ _ _ _ 128 _ _ _ _ _
  refine z_bipush (v := (-9)) dX12_property_128 (by decide) ?_
  refine z_iret dX12_property_130 rfl ?_
  refine ⟨congrArg (fun z => some (Value.int z)) ?_, rfl, rfl, rfl, rfl⟩
  first | (rw [pprop_k (show pof M x 0 = 3 from c6_1)]; rfl) | (rw [pprop_k (show pof M x 0 = 4 from c6_2)]; rfl) | (rw [pprop_k (show pof M x 0 = 5 from c6_3)]; rfl) | (rw [pprop_k (show pof M x 0 = 6 from c6_4)]; rfl) | exact ((if_neg (fun q => q.elim nc6_0 nc6_11)).trans ((if_neg (fun q => q.elim nc6_5 (fun q => q.elim nc6_6 nc6_8))).trans ((if_neg nc6_7).trans ((if_neg (fun q => q.elim nc6_9 nc6_12)).trans (if_neg nc6_10))))).symm
def pbel (M : zI) : Nat → Int32 → Int32
  | 0, x => x
  | j + 1, x => pbel M j (pof M x 5)
def pframe (M : zI) (x y : Int32) : Int32 := if (x < 0 ∨ pdepth M - 1 < x) ∨ (y < 0 ∨ 1 < y) then -1 else if y = 0 then pof M (pbel M (tn x) (M 2 7)) 0 else pprop M (pbel M (tn x) (M 2 7))
def pframeV (M : zI) (x : Int32) : Prop := ¬ (x < 0 ∨ pdepth M - 1 < x) → pagV M (tn x) (M 2 7) ∧ iv 40000 (pbel M (tn x) (M 2 7)) ∧ ppropV M (pbel M (tn x) (M 2 7))
set_option maxRecDepth 20000 in
theorem Rl_X12_frame {l : Launch} {d : Nat} {D : zD} {b0 : Nat} {g : zG} {f M : zI} {o : Nat} (hW : RW b0 g o) (n : Nat) (y : Int32) (hn : n < 2 ^ 31) (hd : 3 ≤ d) (Q : Nat → Nat → zKT → Prop) : ∀ (j k : Nat) (x : Int32), k + j = n → pagV M j x → (∀ x4 : Int32, zS l d D b0 mX12_frame 0 0 55 [some (.ref o), some (.int (nI n)), some (.int y), some (.int (pbel M j x)), some (.int x4)] [] g (rv o f M) Q) → zS l d D b0 mX12_frame 0 0 36 [some (.ref o), some (.int (nI n)), some (.int y), some (.int x), some (.int (nI k))] [] g (rv o f M) Q := by
  intro j
  induction j with
  | zero =>
    intro k x hk hV kk
    refine z_iload4 dX12_frame_36 ?_
    refine z_iload1 dX12_frame_38 ?_
    refine z_icmp_ge (tgt := 55) dX12_frame_39 (by decide) (fun c6 => ?_) (fun c6 => absurd c6 (nI_nlt (by omega) (by omega)))
    exact kk _
  | succ j ih =>
    intro k x hk hV kk
    refine z_iload4 dX12_frame_36 ?_
    refine z_iload1 dX12_frame_38 ?_
    refine z_icmp_ge (tgt := 55) dX12_frame_39 (by decide) (fun c6 => absurd (nI_lt (by omega) (by omega)) c6) (fun c6 => ?_)
    show zS _ _ _ _ _ _ _ 42 _ _ _ _ _
    refine z_aload0 dX12_frame_42 ?_
    refine z_iload3 dX12_frame_43 ?_
    refine z_iconst (v := 5) dX12_frame_44 (by decide) ?_
    refine z_callVi zmd_X12_of rfl (by decide) zl_RX12_213 zin_X12_of zsel_X12_of (R_X12_of (d := d - 1) hW _ hV.1 _ (⟨by decide, by decide⟩ : iv 7 (5 : Int32))) hW.o rfl rfl (by omega) rfl dX12_frame_45 ?_
    refine z_istore3 dX12_frame_48 ?_
    refine z_iinc4 (y := 1) dX12_frame_49 (by decide) ?_
    refine z_goto (tgt := 36) dX12_frame_52 (by decide) ?_
    show zS _ _ _ _ _ _ _ 36 _ _ _ _ _
    rw [nI_1]
    exact ih (k + 1) (pof M x 5) (by omega) hV.2 kk
theorem zB1_5 {x : Int32} (h : ¬ (x < 0 ∨ (1 : Int32) < x)) (h0 : ¬ x = 0) : True := trivial
set_option maxRecDepth 20000 in
theorem R_X12_frame {l : Launch} {d : Nat} {D : zD} {b0 : Nat} {g : zG} {f M : zI} {o : Nat} (hW : RW b0 g o) (x y : Int32) (hT : vd 40000 (M 2 7)) (hV : pframeV M x) (hd : 3 ≤ d) : zM l d D b0 mX12_frame [.ref o, .int x, .int y] g (rv o f M) (zEx (some (.int (pframe M x y))) g (rv o f M)) := by
  refine zM.start zmd_X12_frame (Nat.le_of_ble_eq_true rfl) ⟨rfl, rfl, rfl, trivial⟩ [some (.ref o), some (.int x), some (.int y), none, none] rfl ?_
  refine z_iload1 dX12_frame_0 ?_
  refine z_iconst (v := 0) dX12_frame_1 (by decide) ?_
  refine z_aload0 dX12_frame_2 ?_
  refine z_callVi zmd_X12_depth rfl (by decide) zl_RX12_216 zin_X12_depth zsel_X12_depth (R_X12_depth (d := d - 1) hW hT (by omega)) hW.o rfl rfl (by omega) rfl dX12_frame_3 ?_
  refine z_iconst (v := 1) dX12_frame_6 (by decide) ?_
  refine z_isub dX12_frame_7 ?_
  refine z_callSi zmd_X12_isIn zl_RX12_74 zst_X12_isIn (R_X12_isIn (d := d - 1) hW _ _ _) rfl rfl (by omega) rfl dX12_frame_8 ?_
  refine z_if_eq (tgt := 23) dX12_frame_11 (by decide) (fun c11 => ?_) (fun c11 => ?_)
  · show zS _ _ _ _ _ _ _ 23 _ _ _ _ _
    refine z_iconst (v := (-1)) dX12_frame_23 (by decide) ?_
    refine z_iret dX12_frame_24 rfl ?_
    refine ⟨congrArg (fun z => some (Value.int z)) ?_, rfl, rfl, rfl, rfl⟩
    first | exact (if_pos (Or.inl (zBno c11))).symm | exact (if_pos (Or.inr (zBno c20))).symm
  · show zS _ _ _ _ _ _ _ 14 _ _ _ _ _
    refine z_iload2 dX12_frame_14 ?_
    refine z_iconst (v := 0) dX12_frame_15 (by decide) ?_
    refine z_iconst (v := 1) dX12_frame_16 (by decide) ?_
    refine z_callSi zmd_X12_isIn zl_RX12_74 zst_X12_isIn (R_X12_isIn (d := d - 1) hW _ _ _) rfl rfl (by omega) rfl dX12_frame_17 ?_
    refine z_if_ne (tgt := 25) dX12_frame_20 (by decide) (fun c20 => ?_) (fun c20 => ?_)
    · show zS _ _ _ _ _ _ _ 25 _ _ _ _ _
      have hx := zByes c11
      have hy := zByes c20
      obtain ⟨hV1, hV2, hV3⟩ := hV hx
      obtain ⟨n, hn0, hn⟩ := nI_of (fun q => hx (Or.inl q))
      have htn : tn x = n := by rw [hn]; exact tn_nI hn0
      refine z_aload0 dX12_frame_25 ?_
      refine z_getRs fl_RX12_14 (by decide) hW.o (hW.r 1 rfl) dX12_frame_26 ?_
      refine z_bipush (v := 7) dX12_frame_29 (by decide) ?_
      refine zr_ld hW (i := 1) rfl (by decide) (by decide) (ixC 7) (by decide) dX12_frame_31 ?_
      refine z_istore3 dX12_frame_32 ?_
      refine z_iconst (v := 0) dX12_frame_33 (by decide) ?_
      refine z_istore4 dX12_frame_34 ?_
      have hnn : x = nI n := hn
      clear hn
      subst hnn
      rw [htn] at hV1 hV2 hV3
      have hn100 : n < 2 ^ 31 := by omega
      refine Rl_X12_frame hW n y hn100 hd _ n 0 _ (by omega) hV1 (fun x4 => ?_)
      show zS _ _ _ _ _ _ _ 55 _ _ _ _ _
      refine z_iload2 dX12_frame_55 ?_
      refine z_if_ne (tgt := 68) dX12_frame_56 (by decide) (fun c56 => ?_) (fun c56 => ?_)
      · show zS _ _ _ _ _ _ _ 68 _ _ _ _ _
        refine z_aload0 dX12_frame_68 ?_
        refine z_iload3 dX12_frame_69 ?_
        refine z_callVi zmd_X12_property rfl (by decide) zl_RX12_302 zin_X12_property zsel_X12_property (R_X12_property (d := d - 1) hW _ hV3 (by omega)) hW.o rfl rfl (by omega) rfl dX12_frame_70 ?_
        refine z_iret dX12_frame_73 rfl ?_
        refine ⟨congrArg (fun z => some (Value.int z)) ?_, rfl, rfl, rfl, rfl⟩
        have e : pframe M (nI n) y = (if y = 0 then pof M (pbel M (tn (nI n)) (M 2 7)) 0 else pprop M (pbel M (tn (nI n)) (M 2 7))) := if_neg (fun q => q.elim hx hy)
        rw [e, htn]
        first | exact (if_pos (by assumption)).symm | exact (if_neg (by assumption)).symm
      · show zS _ _ _ _ _ _ _ 59 _ _ _ _ _
        refine z_aload0 dX12_frame_59 ?_
        refine z_iload3 dX12_frame_60 ?_
        refine z_iconst (v := 0) dX12_frame_61 (by decide) ?_
        refine z_callVi zmd_X12_of rfl (by decide) zl_RX12_213 zin_X12_of zsel_X12_of (R_X12_of (d := d - 1) hW _ hV2 _ (⟨by decide, by decide⟩ : iv 7 (0 : Int32))) hW.o rfl rfl (by omega) rfl dX12_frame_62 ?_
        refine z_goto (tgt := 73) dX12_frame_65 (by decide) ?_
        show zS _ _ _ _ _ _ _ 73 _ _ _ _ _
        refine z_iret dX12_frame_73 rfl ?_
        refine ⟨congrArg (fun z => some (Value.int z)) ?_, rfl, rfl, rfl, rfl⟩
        have e : pframe M (nI n) y = (if y = 0 then pof M (pbel M (tn (nI n)) (M 2 7)) 0 else pprop M (pbel M (tn (nI n)) (M 2 7))) := if_neg (fun q => q.elim hx hy)
        rw [e, htn]
        first | exact (if_pos (by assumption)).symm | exact (if_neg (by assumption)).symm
    · show zS _ _ _ _ _ _ _ 23 _ _ _ _ _
      refine z_iconst (v := (-1)) dX12_frame_23 (by decide) ?_
      refine z_iret dX12_frame_24 rfl ?_
      refine ⟨congrArg (fun z => some (Value.int z)) ?_, rfl, rfl, rfl, rfl⟩
      first | exact (if_pos (Or.inl (zBno c11))).symm | exact (if_pos (Or.inr (zBno c20))).symm
set_option maxRecDepth 20000 in
theorem R_X12_handler {l : Launch} {d : Nat} {D : zD} {b0 : Nat} {g : zG} {f M : zI} {o : Nat} (hW : RW b0 g o) (x : Int32) (hh : phV M 101 (M 2 7)) (hd : 2 ≤ d) : zM l d D b0 mX12_handler [.ref o, .int x] g (rv o f M) (zEx (some (.int ((if x < 0 ∨ 5 < x then -1 else if (phand M x).1 = -9 then -9 else (phand M x).2)))) g (rv o f ((if x < 0 ∨ 5 < x then M else zup M 0 28 (phand M x).2)))) := by
  refine zM.start zmd_X12_handler (Nat.le_of_ble_eq_true rfl) ⟨rfl, rfl, trivial⟩ [some (.ref o), some (.int x)] rfl ?_
  refine z_iload1 dX12_handler_0 ?_
  refine z_iconst (v := 0) dX12_handler_1 (by decide) ?_
  refine z_iconst (v := 5) dX12_handler_2 (by decide) ?_
  refine z_callSi zmd_X12_isIn zl_RX12_74 zst_X12_isIn (R_X12_isIn (d := d - 1) hW _ _ _) rfl rfl (by omega) rfl dX12_handler_3 ?_
  refine z_if_ne (tgt := 11) dX12_handler_6 (by decide) (fun c6 => ?_) (fun c6 => ?_)
  · show zS _ _ _ _ _ _ _ 11 _ _ _ _ _
    refine z_aload0 dX12_handler_11 ?_
    refine z_iload1 dX12_handler_12 ?_
    refine z_callVi zmd_X12_handlerOf rfl (by decide) zl_RX12_251 zin_X12_handlerOf zsel_X12_handlerOf (R_X12_handlerOf (d := d - 1) hW _ hh (by omega)) hW.o rfl rfl (by omega) rfl dX12_handler_13 ?_
    refine z_bipush (v := (-9)) dX12_handler_16 (by decide) ?_
    refine z_icmp_ne (tgt := 26) dX12_handler_18 (by decide) (fun c18 => ?_) (fun c18 => ?_)
    · show zS _ _ _ _ _ _ _ 26 _ _ _ _ _
      refine z_aload0 dX12_handler_26 ?_
      refine zr_getI fl_RX12_248 hW dX12_handler_27 ?_
      refine z_iret dX12_handler_30 rfl ?_
      rw [if_neg (zByes c6), if_neg (zByes c6)]
      first | (rw [if_pos (by assumption)]; exact ⟨rfl, rfl, rfl, rfl, rfl⟩) | (rw [if_neg (by assumption)]; exact ⟨rfl, rfl, rfl, rfl, rfl⟩)
    · show zS _ _ _ _ _ _ _ 21 _ _ _ _ _
      refine z_bipush (v := (-9)) dX12_handler_21 (by decide) ?_
      refine z_goto (tgt := 30) dX12_handler_23 (by decide) ?_
      show zS _ _ _ _ _ _ _ 30 _ _ _ _ _
      refine z_iret dX12_handler_30 rfl ?_
      rw [if_neg (zByes c6), if_neg (zByes c6)]
      first | (rw [if_pos (by assumption)]; exact ⟨rfl, rfl, rfl, rfl, rfl⟩) | (rw [if_neg (by assumption)]; exact ⟨rfl, rfl, rfl, rfl, rfl⟩)
  · show zS _ _ _ _ _ _ _ 9 _ _ _ _ _
    refine z_iconst (v := (-1)) dX12_handler_9 (by decide) ?_
    refine z_iret dX12_handler_10 rfl ?_
    rw [if_pos (zBno c6), if_pos (zBno c6)]
    exact ⟨rfl, rfl, rfl, rfl, rfl⟩
def pkeep1 (M : zI) (x : Int32) : zI := pcp M 3 (8490 * tn x) 2 0 8490
def pkeep2 (M : zI) (x : Int32) : zI := pcp (pkeep1 M x) 5 (280000 * tn x) 4 0 (7 * tn (M 2 21))
def pkeep (M : zI) (x : Int32) : Int32 × zI := if x < 0 ∨ 1 < x then (-1, M) else (M 2 5, zup (pkeep2 M x) 0 4 (M 0 4 ||| 1 <<< (x &&& 31)))
def pback1 (M : zI) (x : Int32) : zI := pcp M 2 0 3 (8490 * tn x) 8490
def pback2 (M : zI) (x : Int32) : zI := pcp (pback1 M x) 4 0 5 (280000 * tn x) (7 * tn (pback1 M x 2 21))
def pback (M : zI) (x : Int32) : Int32 × zI := if x < 0 ∨ 1 < x then (-1, M) else if M 0 4 >>> (x &&& 31) &&& 1 = 0 then (-2, M) else (pback2 M x 2 5, pback2 M x)
set_option maxRecDepth 20000 in
theorem Rl_X12_keep1 {l : Launch} {d : Nat} {D : zD} {b0 : Nat} {g : zG} {f M : zI} {o : Nat} (hW : RW b0 g o) (x : Int32) (hi : iv 2 x) (Q : Nat → Nat → zKT → Prop) : ∀ (j k : Nat), k + j = 8490 → (∀ x2 : Int32, zS l d D b0 mX12_keep 0 0 44 [some (.ref o), some (.int x), some (.int x2)] [] g (rv o f (pcp M 3 (8490 * tn x) 2 0 (8490))) Q) → zS l d D b0 mX12_keep 0 0 13 [some (.ref o), some (.int x), some (.int (nI k))] [] g (rv o f (pcp M 3 (8490 * tn x) 2 0 k)) Q := by
  have hi1 := hi.1
  intro j
  induction j with
  | zero =>
    intro k hk kk
    obtain rfl : k = 8490 := by omega
    refine z_iload2 dX12_keep_13 ?_
    refine z_sipush (v := 8490) dX12_keep_14 (by decide) ?_
    refine z_icmp_ge (tgt := 44) dX12_keep_17 (by decide) (fun c6 => ?_) (fun c6 => absurd c6 (nI_nlt (a := 8490) (b := 8490) (by omega) (by omega)))
    exact kk _
  | succ j ih =>
    intro k hk kk
    refine z_iload2 dX12_keep_13 ?_
    refine z_sipush (v := 8490) dX12_keep_14 (by decide) ?_
    refine z_icmp_ge (tgt := 44) dX12_keep_17 (by decide) (fun c6 => absurd (nI_lt (b := 8490) (by omega) (by decide)) c6) (fun c6 => ?_)
    show zS _ _ _ _ _ _ _ 20 _ _ _ _ _
    refine z_aload0 dX12_keep_20 ?_
    refine z_getRs fl_RX12_17 (by decide) hW.o (hW.r 2 rfl) dX12_keep_21 ?_
    refine z_sipush (v := 8490) dX12_keep_24 (by decide) ?_
    refine z_iload1 dX12_keep_27 ?_
    refine z_imul dX12_keep_28 ?_
    refine z_iload2 dX12_keep_29 ?_
    refine z_iadd dX12_keep_30 ?_
    refine z_aload0 dX12_keep_31 ?_
    refine z_getRs fl_RX12_14 (by decide) hW.o (hW.r 1 rfl) dX12_keep_32 ?_
    refine z_iload2 dX12_keep_35 ?_
    refine zr_ld hW (i := 1) rfl (by decide) (by decide) (rfl : nI k = nI k) (by omega) dX12_keep_36 ?_
    rw [pcp_r (show (2 : Nat) ≠ 3 by decide)]
    show zS _ _ _ _ _ _ _ 37 _ _ _ _ _
    refine zr_st hW (i := 2) rfl (by decide) (by decide) (ixA (ixM (ixC 8490) hi.2) (rfl : nI k = nI k)) (by omega) dX12_keep_37 ?_
    refine z_iinc2 (y := 1) dX12_keep_38 (by decide) ?_
    refine z_goto (tgt := 13) dX12_keep_41 (by decide) ?_
    rw [nI_1]
    have e := ih (k + 1) (by omega) kk
    rw [← pcp_s] at e
    rw [show (0 : Nat) + k = k from Nat.zero_add k] at e
    exact e
set_option maxRecDepth 20000 in
theorem Rl_X12_keep2 {l : Launch} {d : Nat} {D : zD} {b0 : Nat} {g : zG} {f M : zI} {o : Nat} (hW : RW b0 g o) (x : Int32) (hi : iv 2 x) (q : Nat) (hq : M 2 21 = nI q) (hn : 7 * q ≤ 280000) (Q : Nat → Nat → zKT → Prop) : ∀ (j k : Nat), k + j = 7 * q → (∀ x2 : Int32, zS l d D b0 mX12_keep 0 0 83 [some (.ref o), some (.int x), some (.int x2)] [] g (rv o f (pcp M 5 (280000 * tn x) 4 0 (7 * q))) Q) → zS l d D b0 mX12_keep 0 0 46 [some (.ref o), some (.int x), some (.int (nI k))] [] g (rv o f (pcp M 5 (280000 * tn x) 4 0 k)) Q := by
  have hi1 := hi.1
  intro j
  induction j with
  | zero =>
    intro k hk kk
    obtain rfl : k = 7 * q := by omega
    refine z_iload2 dX12_keep_46 ?_
    refine z_bipush (v := 7) dX12_keep_47 (by decide) ?_
    refine z_aload0 dX12_keep_49 ?_
    refine z_getRs fl_RX12_14 (by decide) hW.o (hW.r 1 rfl) dX12_keep_50 ?_
    refine z_bipush (v := 21) dX12_keep_53 (by decide) ?_
    refine zr_ld hW (i := 1) rfl (by decide) (by decide) (ixC 21) (by decide) dX12_keep_55 ?_
    rw [pcp_r (show (2 : Nat) ≠ 5 by decide), hq]
    refine z_imul dX12_keep_56 ?_
    refine z_top (show (7 : Int32) * nI q = nI (7 * q) from pk_mul 7 q) ?_
    refine z_icmp_ge (tgt := 83) dX12_keep_57 (by decide) (fun c6 => ?_) (fun c6 => absurd c6 (nI_nlt (by omega) (by omega)))
    exact kk _
  | succ j ih =>
    intro k hk kk
    refine z_iload2 dX12_keep_46 ?_
    refine z_bipush (v := 7) dX12_keep_47 (by decide) ?_
    refine z_aload0 dX12_keep_49 ?_
    refine z_getRs fl_RX12_14 (by decide) hW.o (hW.r 1 rfl) dX12_keep_50 ?_
    refine z_bipush (v := 21) dX12_keep_53 (by decide) ?_
    refine zr_ld hW (i := 1) rfl (by decide) (by decide) (ixC 21) (by decide) dX12_keep_55 ?_
    rw [pcp_r (show (2 : Nat) ≠ 5 by decide), hq]
    refine z_imul dX12_keep_56 ?_
    refine z_top (show (7 : Int32) * nI q = nI (7 * q) from pk_mul 7 q) ?_
    refine z_icmp_ge (tgt := 83) dX12_keep_57 (by decide) (fun c6 => absurd (nI_lt (by omega) (by omega)) c6) (fun c6 => ?_)
    show zS _ _ _ _ _ _ _ 60 _ _ _ _ _
    refine z_aload0 dX12_keep_60 ?_
    refine z_getRs fl_RX12_25 (by decide) hW.o (hW.r 4 rfl) dX12_keep_61 ?_
    refine z_ldc dX12_keep_64 zk_RX12_20 ?_
    refine z_iload1 dX12_keep_66 ?_
    refine z_imul dX12_keep_67 ?_
    refine z_iload2 dX12_keep_68 ?_
    refine z_iadd dX12_keep_69 ?_
    refine z_aload0 dX12_keep_70 ?_
    refine z_getRs fl_RX12_21 (by decide) hW.o (hW.r 3 rfl) dX12_keep_71 ?_
    refine z_iload2 dX12_keep_74 ?_
    refine zr_ld hW (i := 3) rfl (by decide) (by decide) (rfl : nI k = nI k) (by omega) dX12_keep_75 ?_
    rw [pcp_r (show (4 : Nat) ≠ 5 by decide)]
    show zS _ _ _ _ _ _ _ 76 _ _ _ _ _
    refine zr_st hW (i := 4) rfl (by decide) (by decide) (ixA (ixM (ixC 280000) hi.2) (rfl : nI k = nI k)) (by omega) dX12_keep_76 ?_
    refine z_iinc2 (y := 1) dX12_keep_77 (by decide) ?_
    refine z_goto (tgt := 46) dX12_keep_80 (by decide) ?_
    rw [nI_1]
    have e := ih (k + 1) (by omega) kk
    rw [← pcp_s] at e
    rw [show (0 : Nat) + k = k from Nat.zero_add k] at e
    exact e
set_option maxRecDepth 20000 in
theorem Rl_X12_back1 {l : Launch} {d : Nat} {D : zD} {b0 : Nat} {g : zG} {f M : zI} {o : Nat} (hW : RW b0 g o) (x : Int32) (hi : iv 2 x) (Q : Nat → Nat → zKT → Prop) : ∀ (j k : Nat), k + j = 8490 → (∀ x2 : Int32, zS l d D b0 mX12_back 0 0 58 [some (.ref o), some (.int x), some (.int x2)] [] g (rv o f (pcp M 2 0 3 (8490 * tn x) (8490))) Q) → zS l d D b0 mX12_back 0 0 27 [some (.ref o), some (.int x), some (.int (nI k))] [] g (rv o f (pcp M 2 0 3 (8490 * tn x) k)) Q := by
  have hi1 := hi.1
  intro j
  induction j with
  | zero =>
    intro k hk kk
    obtain rfl : k = 8490 := by omega
    refine z_iload2 dX12_back_27 ?_
    refine z_sipush (v := 8490) dX12_back_28 (by decide) ?_
    refine z_icmp_ge (tgt := 58) dX12_back_31 (by decide) (fun c6 => ?_) (fun c6 => absurd c6 (nI_nlt (a := 8490) (b := 8490) (by omega) (by omega)))
    exact kk _
  | succ j ih =>
    intro k hk kk
    refine z_iload2 dX12_back_27 ?_
    refine z_sipush (v := 8490) dX12_back_28 (by decide) ?_
    refine z_icmp_ge (tgt := 58) dX12_back_31 (by decide) (fun c6 => absurd (nI_lt (b := 8490) (by omega) (by decide)) c6) (fun c6 => ?_)
    show zS _ _ _ _ _ _ _ 34 _ _ _ _ _
    refine z_aload0 dX12_back_34 ?_
    refine z_getRs fl_RX12_14 (by decide) hW.o (hW.r 1 rfl) dX12_back_35 ?_
    refine z_iload2 dX12_back_38 ?_
    refine z_aload0 dX12_back_39 ?_
    refine z_getRs fl_RX12_17 (by decide) hW.o (hW.r 2 rfl) dX12_back_40 ?_
    refine z_sipush (v := 8490) dX12_back_43 (by decide) ?_
    refine z_iload1 dX12_back_46 ?_
    refine z_imul dX12_back_47 ?_
    refine z_iload2 dX12_back_48 ?_
    refine z_iadd dX12_back_49 ?_
    refine zr_ld hW (i := 2) rfl (by decide) (by decide) (ixA (ixM (ixC 8490) hi.2) (rfl : nI k = nI k)) (by omega) dX12_back_50 ?_
    rw [pcp_r (show (3 : Nat) ≠ 2 by decide)]
    show zS _ _ _ _ _ _ _ 51 _ _ _ _ _
    refine zr_st hW (i := 1) rfl (by decide) (by decide) (rfl : nI k = nI k) (by omega) dX12_back_51 ?_
    refine z_iinc2 (y := 1) dX12_back_52 (by decide) ?_
    refine z_goto (tgt := 27) dX12_back_55 (by decide) ?_
    rw [nI_1]
    have e := ih (k + 1) (by omega) kk
    rw [← pcp_s] at e
    rw [show (0 : Nat) + k = k from Nat.zero_add k] at e
    exact e
set_option maxRecDepth 20000 in
theorem Rl_X12_back2 {l : Launch} {d : Nat} {D : zD} {b0 : Nat} {g : zG} {f M : zI} {o : Nat} (hW : RW b0 g o) (x : Int32) (hi : iv 2 x) (q : Nat) (hq : M 2 21 = nI q) (hn : 7 * q ≤ 280000) (Q : Nat → Nat → zKT → Prop) : ∀ (j k : Nat), k + j = 7 * q → (∀ x2 : Int32, zS l d D b0 mX12_back 0 0 97 [some (.ref o), some (.int x), some (.int x2)] [] g (rv o f (pcp M 4 0 5 (280000 * tn x) (7 * q))) Q) → zS l d D b0 mX12_back 0 0 60 [some (.ref o), some (.int x), some (.int (nI k))] [] g (rv o f (pcp M 4 0 5 (280000 * tn x) k)) Q := by
  have hi1 := hi.1
  intro j
  induction j with
  | zero =>
    intro k hk kk
    obtain rfl : k = 7 * q := by omega
    refine z_iload2 dX12_back_60 ?_
    refine z_bipush (v := 7) dX12_back_61 (by decide) ?_
    refine z_aload0 dX12_back_63 ?_
    refine z_getRs fl_RX12_14 (by decide) hW.o (hW.r 1 rfl) dX12_back_64 ?_
    refine z_bipush (v := 21) dX12_back_67 (by decide) ?_
    refine zr_ld hW (i := 1) rfl (by decide) (by decide) (ixC 21) (by decide) dX12_back_69 ?_
    rw [pcp_r (show (2 : Nat) ≠ 4 by decide), hq]
    refine z_imul dX12_back_70 ?_
    refine z_top (show (7 : Int32) * nI q = nI (7 * q) from pk_mul 7 q) ?_
    refine z_icmp_ge (tgt := 97) dX12_back_71 (by decide) (fun c6 => ?_) (fun c6 => absurd c6 (nI_nlt (by omega) (by omega)))
    exact kk _
  | succ j ih =>
    intro k hk kk
    refine z_iload2 dX12_back_60 ?_
    refine z_bipush (v := 7) dX12_back_61 (by decide) ?_
    refine z_aload0 dX12_back_63 ?_
    refine z_getRs fl_RX12_14 (by decide) hW.o (hW.r 1 rfl) dX12_back_64 ?_
    refine z_bipush (v := 21) dX12_back_67 (by decide) ?_
    refine zr_ld hW (i := 1) rfl (by decide) (by decide) (ixC 21) (by decide) dX12_back_69 ?_
    rw [pcp_r (show (2 : Nat) ≠ 4 by decide), hq]
    refine z_imul dX12_back_70 ?_
    refine z_top (show (7 : Int32) * nI q = nI (7 * q) from pk_mul 7 q) ?_
    refine z_icmp_ge (tgt := 97) dX12_back_71 (by decide) (fun c6 => absurd (nI_lt (by omega) (by omega)) c6) (fun c6 => ?_)
    show zS _ _ _ _ _ _ _ 74 _ _ _ _ _
    refine z_aload0 dX12_back_74 ?_
    refine z_getRs fl_RX12_21 (by decide) hW.o (hW.r 3 rfl) dX12_back_75 ?_
    refine z_iload2 dX12_back_78 ?_
    refine z_aload0 dX12_back_79 ?_
    refine z_getRs fl_RX12_25 (by decide) hW.o (hW.r 4 rfl) dX12_back_80 ?_
    refine z_ldc dX12_back_83 zk_RX12_20 ?_
    refine z_iload1 dX12_back_85 ?_
    refine z_imul dX12_back_86 ?_
    refine z_iload2 dX12_back_87 ?_
    refine z_iadd dX12_back_88 ?_
    refine zr_ld hW (i := 4) rfl (by decide) (by decide) (ixA (ixM (ixC 280000) hi.2) (rfl : nI k = nI k)) (by omega) dX12_back_89 ?_
    rw [pcp_r (show (5 : Nat) ≠ 4 by decide)]
    show zS _ _ _ _ _ _ _ 90 _ _ _ _ _
    refine zr_st hW (i := 3) rfl (by decide) (by decide) (rfl : nI k = nI k) (by omega) dX12_back_90 ?_
    refine z_iinc2 (y := 1) dX12_back_91 (by decide) ?_
    refine z_goto (tgt := 60) dX12_back_94 (by decide) ?_
    rw [nI_1]
    have e := ih (k + 1) (by omega) kk
    rw [← pcp_s] at e
    rw [show (0 : Nat) + k = k from Nat.zero_add k] at e
    exact e
set_option maxRecDepth 20000 in
theorem R_X12_keep {l : Launch} {d : Nat} {D : zD} {b0 : Nat} {g : zG} {f M : zI} {o : Nat} (hW : RW b0 g o) (x : Int32) (q : Nat) (hq : M 2 21 = nI q) (hn : q ≤ 40000) (hd : 1 ≤ d) : zM l d D b0 mX12_keep [.ref o, .int x] g (rv o f M) (zEx (some (.int ((pkeep M x).1))) g (rv o f ((pkeep M x).2))) := by
  refine zM.start zmd_X12_keep (Nat.le_of_ble_eq_true rfl) ⟨rfl, rfl, trivial⟩ [some (.ref o), some (.int x), none] rfl ?_
  refine z_iload1 dX12_keep_0 ?_
  refine z_iconst (v := 0) dX12_keep_1 (by decide) ?_
  refine z_iconst (v := 1) dX12_keep_2 (by decide) ?_
  refine z_callSi zmd_X12_isIn zl_RX12_74 zst_X12_isIn (R_X12_isIn (d := d - 1) hW _ _ _) rfl rfl (by omega) rfl dX12_keep_3 ?_
  refine z_if_ne (tgt := 11) dX12_keep_6 (by decide) (fun c6 => ?_) (fun c6 => ?_)
  · show zS _ _ _ _ _ _ _ 11 _ _ _ _ _
    have hi : iv 2 x := iv_of (n := 1) (by decide) (zByes c6)
    have hq2 : tn (M 2 21) = q := by rw [hq]; exact tn_nI (by omega)
    refine z_iconst (v := 0) dX12_keep_11 (by decide) ?_
    refine z_istore2 dX12_keep_12 ?_
    have h := fun kk => Rl_X12_keep1 (l := l) (d := d) (D := D) (f := f) (M := M) hW x hi (zq D b0 (zEx (some (.int (pkeep M x).1)) g (rv o f (pkeep M x).2))) 8490 0 (by omega) kk
    rw [pcp_0] at h
    refine h (fun x2 => ?_)
    refine z_iconst (v := 0) dX12_keep_44 (by decide) ?_
    refine z_istore2 dX12_keep_45 ?_
    have h2 := fun kk => Rl_X12_keep2 (l := l) (d := d) (D := D) (f := f) (M := pkeep1 M x) hW x hi q (by exact hq) (by omega) (zq D b0 (zEx (some (.int (pkeep M x).1)) g (rv o f (pkeep M x).2))) (7 * q) 0 (by omega) kk
    rw [pcp_0] at h2
    refine h2 (fun x2 => ?_)
    rw [show pcp (pkeep1 M x) 5 (280000 * tn x) 4 0 (7 * q) = pkeep2 M x from by unfold pkeep2; rw [hq2]]
    show zS _ _ _ _ _ _ _ 83 _ _ _ _ _
    refine z_aload0 dX12_keep_83 ?_
    refine z_dup dX12_keep_84 ?_
    refine zr_getI fl_RX12_305 hW dX12_keep_85 ?_
    refine z_iconst (v := 1) dX12_keep_88 (by decide) ?_
    refine z_iload1 dX12_keep_89 ?_
    refine z_ishl dX12_keep_90 ?_
    refine z_ior dX12_keep_91 ?_
    refine zr_putI fl_RX12_305 hW dX12_keep_92 ?_
    refine z_aload0 dX12_keep_95 ?_
    refine z_getRs fl_RX12_14 (by decide) hW.o (hW.r 1 rfl) dX12_keep_96 ?_
    refine z_iconst (v := 5) dX12_keep_99 (by decide) ?_
    show zS _ _ _ _ _ _ _ 100 _ _ _ _ _
    refine zr_ld hW (i := 1) rfl (by decide) (by decide) (ixC 5) (by decide) dX12_keep_100 ?_
    refine z_iret dX12_keep_101 rfl ?_
    rw [show pkeep M x = _ from if_neg (zByes c6)]
    exact ⟨rfl, rfl, rfl, rfl, rfl⟩
  · show zS _ _ _ _ _ _ _ 9 _ _ _ _ _
    refine z_iconst (v := (-1)) dX12_keep_9 (by decide) ?_
    refine z_iret dX12_keep_10 rfl ?_
    rw [show pkeep M x = (-1, M) from if_pos (zBno c6)]
    exact ⟨rfl, rfl, rfl, rfl, rfl⟩
set_option maxRecDepth 20000 in
theorem R_X12_back {l : Launch} {d : Nat} {D : zD} {b0 : Nat} {g : zG} {f M : zI} {o : Nat} (hW : RW b0 g o) (x : Int32) (hV : ∀ y, M 0 4 >>> (x &&& 31) &&& 1 = y → ¬ y = 0 → ∃ q : Nat, pback1 M x 2 21 = nI q ∧ q ≤ 40000) (hd : 1 ≤ d) : zM l d D b0 mX12_back [.ref o, .int x] g (rv o f M) (zEx (some (.int ((pback M x).1))) g (rv o f ((pback M x).2))) := by
  refine zM.start zmd_X12_back (Nat.le_of_ble_eq_true rfl) ⟨rfl, rfl, trivial⟩ [some (.ref o), some (.int x), none] rfl ?_
  refine z_iload1 dX12_back_0 ?_
  refine z_iconst (v := 0) dX12_back_1 (by decide) ?_
  refine z_iconst (v := 1) dX12_back_2 (by decide) ?_
  refine z_callSi zmd_X12_isIn zl_RX12_74 zst_X12_isIn (R_X12_isIn (d := d - 1) hW _ _ _) rfl rfl (by omega) rfl dX12_back_3 ?_
  refine z_if_ne (tgt := 11) dX12_back_6 (by decide) (fun c6 => ?_) (fun c6 => ?_)
  · show zS _ _ _ _ _ _ _ 11 _ _ _ _ _
    refine z_aload0 dX12_back_11 ?_
    refine zr_getI fl_RX12_305 hW dX12_back_12 ?_
    refine z_iload1 dX12_back_15 ?_
    refine z_ishr dX12_back_16 ?_
    refine z_iconst (v := 1) dX12_back_17 (by decide) ?_
    refine z_iand dX12_back_18 ?_
    refine z_if_ne (tgt := 25) dX12_back_19 (by decide) (fun c19 => ?_) (fun c19 => ?_)
    · show zS _ _ _ _ _ _ _ 25 _ _ _ _ _
      have hi : iv 2 x := iv_of (n := 1) (by decide) (zByes c6)
      obtain ⟨q, hq, hn⟩ := hV _ rfl c19
      have hq2 : tn (pback1 M x 2 21) = q := by rw [hq]; exact tn_nI (by omega)
      refine z_iconst (v := 0) dX12_back_25 (by decide) ?_
      refine z_istore2 dX12_back_26 ?_
      have h := fun kk => Rl_X12_back1 (l := l) (d := d) (D := D) (f := f) (M := M) hW x hi (zq D b0 (zEx (some (.int (pback M x).1)) g (rv o f (pback M x).2))) 8490 0 (by omega) kk
      rw [pcp_0] at h
      refine h (fun x2 => ?_)
      refine z_iconst (v := 0) dX12_back_58 (by decide) ?_
      refine z_istore2 dX12_back_59 ?_
      have h2 := fun kk => Rl_X12_back2 (l := l) (d := d) (D := D) (f := f) (M := pback1 M x) hW x hi q hq (by omega) (zq D b0 (zEx (some (.int (pback M x).1)) g (rv o f (pback M x).2))) (7 * q) 0 (by omega) kk
      rw [pcp_0] at h2
      refine h2 (fun x2 => ?_)
      rw [show pcp (pback1 M x) 4 0 5 (280000 * tn x) (7 * q) = pback2 M x from by unfold pback2; rw [hq2]]
      show zS _ _ _ _ _ _ _ 97 _ _ _ _ _
      refine z_aload0 dX12_back_97 ?_
      refine z_getRs fl_RX12_14 (by decide) hW.o (hW.r 1 rfl) dX12_back_98 ?_
      refine z_iconst (v := 5) dX12_back_101 (by decide) ?_
      refine zr_ld hW (i := 1) rfl (by decide) (by decide) (ixC 5) (by decide) dX12_back_102 ?_
      refine z_iret dX12_back_103 rfl ?_
      rw [show pback M x = _ from (if_neg (zByes c6)).trans (if_neg c19)]
      exact ⟨rfl, rfl, rfl, rfl, rfl⟩
    · show zS _ _ _ _ _ _ _ 22 _ _ _ _ _
      refine z_bipush (v := (-2)) dX12_back_22 (by decide) ?_
      refine z_iret dX12_back_24 rfl ?_
      rw [show pback M x = (-2, M) from (if_neg (zByes c6)).trans (if_pos c19)]
      exact ⟨rfl, rfl, rfl, rfl, rfl⟩
  · show zS _ _ _ _ _ _ _ 9 _ _ _ _ _
    refine z_iconst (v := (-1)) dX12_back_9 (by decide) ?_
    refine z_iret dX12_back_10 rfl ?_
    rw [show pback M x = (-1, M) from if_pos (zBno c6)]
    exact ⟨rfl, rfl, rfl, rfl, rfl⟩
