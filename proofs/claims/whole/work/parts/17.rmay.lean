/-! The reference's sets of what may happen, in literal form. -/
def plevels (s a : Int32) : Int32 := (s >>> ((4 * a) &&& 31)) &&& 15
def pwith (s a x : Int32) : Int32 := (s &&& ((15 <<< ((4 * a) &&& 31)) ^^^ -1)) ||| (x <<< ((4 * a) &&& 31))
def pmasked (s a : Int32) : Int32 := pwith s a (((plevels s a <<< ((1 : Int32) &&& 31)) &&& 15) ||| (plevels s a &&& 8))
def phandled (s a : Int32) : Int32 := pwith s a ((plevels s a >>> ((1 : Int32) &&& 31)) ||| (plevels s a &&& 8))
def pofhA (M : zI) (x : Int32) : Nat → Nat → Int32 → Int32
  | 0, _, s => s
  | j + 1, k, s => pofhA M x j (k + 1) (if pclause M x (nI k) = -9 then s else phandled s (nI k))
def pofh (M : zI) (x : Int32) : Int32 := pofhA M x 6 0 (M 14 (tn (ppart M x 1))) ||| M 15 (tn (ppart M x 1))
/-- what the clauses from c on have in row r, or'd to s -/
def pchA (M : zI) (r : Nat) : Nat → Int32 → Int32 → Int32
  | 0, _, s => s
  | k + 1, c, s => if c = -9 then s else pchA M r k (M 1 (5 * tn c + 3)) (s ||| M r (tn c))
def pprA (M : zI) (r : Nat) (x : Int32) : Nat → Nat → Int32 → Int32
  | 0, _, s => s
  | j + 1, k, s => pprA M r x j (k + 1) (s ||| M r (tn (ppart M x (nI k))))
def pcal (M : zI) (r : Nat) (x : Int32) : Int32 := if M 2 (1 + tn (parg M x)) = -9 then 0 else M r (tn (M 2 (1 + tn (parg M x))))
def plvE (M : zI) (x s : Int32) : Int32 := if pkind M x = 10 then s ||| (1 <<< ((4 * parg M x) &&& 31)) else if pkind M x = 11 then pmasked s (parg M x) else if pkind M x = 12 then s else if pkind M x = 13 then s ||| pcal M 14 x else if pkind M x = 14 then s ||| M 14 (tn (M 1 (5 * tn x + 4))) else s
def pleaves (M : zI) (x : Int32) : Int32 := if pkind M x < 2 then 0 else if pkind M x = 16 then M 14 (tn (ppart M x 1)) else if pkind M x = 15 then pchA M 14 8 (M 1 (5 * tn x + 3)) (pofh M x)
  else plvE M x (pprA M 14 x (tn (pparts (pkind M x))) 1 0)
def pltE (M : zI) (x s : Int32) : Int32 := if pkind M x = 12 then s ||| M 14 (tn (ppart M x 2)) else if pkind M x = 13 then s ||| pcal M 15 x else if pkind M x = 14 then s ||| M 15 (tn (M 1 (5 * tn x + 4))) else s
def plate (M : zI) (x : Int32) : Int32 := if pkind M x < 2 then 0 else if pkind M x = 15 then pchA M 15 8 (M 1 (5 * tn x + 3)) (M 15 (tn (ppart M x 1)))
  else pltE M x (if pkind M x = 16 then M 15 (tn (ppart M x 1)) else pprA M 15 x (tn (pparts (pkind M x)) - 1) 2 (M 15 (tn (ppart M x 1))))
/-- a row of the tree is fit for may -/
def pnV (M : zI) (x : Int32) : Prop := iv 65000 x ∧ (¬ pkind M x < 2 → iv 65000 (ppart M x 1)) ∧ (pkind M x = 15 → plpV M x) ∧ (¬ pkind M x < 2 → ¬ pkind M x = 15 → ¬ pkind M x = 16 → ∀ k, 1 ≤ k → k ≤ tn (pparts (pkind M x)) → iv 65000 (ppart M x (nI k))) ∧
  (pkind M x = 13 → iv 4 (parg M x) ∧ (¬ M 2 (1 + tn (parg M x)) = -9 → iv 65000 (M 2 (1 + tn (parg M x))))) ∧ (pkind M x = 14 → iv 65000 (M 1 (5 * tn x + 4)))
set_option maxRecDepth 20000 in
theorem R_X12_levelsOf {l : Launch} {d : Nat} {D : zD} {b0 : Nat} {g : zG} {f M : zI} {o : Nat} (hW : RW b0 g o) (s a : Int32) : zM l d D b0 mX12_levelsOf [.int s, .int a] g (rv o f M) (zEx (some (.int (plevels s a))) g (rv o f M)) := by
  refine zM.start zmd_X12_levelsOf (Nat.le_of_ble_eq_true rfl) ⟨rfl, rfl, trivial⟩ [some (.int s), some (.int a)] rfl ?_
  refine z_iload0 dX12_levelsOf_0 ?_
  refine z_iconst (v := 4) dX12_levelsOf_1 (by decide) ?_
  refine z_iload1 dX12_levelsOf_2 ?_
  refine z_imul dX12_levelsOf_3 ?_
  refine z_ishr dX12_levelsOf_4 ?_
  refine z_bipush (v := 15) dX12_levelsOf_5 (by decide) ?_
  refine z_iand dX12_levelsOf_7 ?_
  refine z_iret dX12_levelsOf_8 rfl ?_
  exact ⟨rfl, rfl, rfl, rfl, rfl⟩
set_option maxRecDepth 20000 in
theorem R_X12_withLevels {l : Launch} {d : Nat} {D : zD} {b0 : Nat} {g : zG} {f M : zI} {o : Nat} (hW : RW b0 g o) (s a x : Int32) : zM l d D b0 mX12_withLevels [.int s, .int a, .int x] g (rv o f M) (zEx (some (.int (pwith s a x))) g (rv o f M)) := by
  refine zM.start zmd_X12_withLevels (Nat.le_of_ble_eq_true rfl) ⟨rfl, rfl, rfl, trivial⟩ [some (.int s), some (.int a), some (.int x)] rfl ?_
  refine z_iload0 dX12_withLevels_0 ?_
  refine z_bipush (v := 15) dX12_withLevels_1 (by decide) ?_
  refine z_iconst (v := 4) dX12_withLevels_3 (by decide) ?_
  refine z_iload1 dX12_withLevels_4 ?_
  refine z_imul dX12_withLevels_5 ?_
  refine z_ishl dX12_withLevels_6 ?_
  refine z_iconst (v := (-1)) dX12_withLevels_7 (by decide) ?_
  refine z_ixor dX12_withLevels_8 ?_
  refine z_iand dX12_withLevels_9 ?_
  refine z_iload2 dX12_withLevels_10 ?_
  refine z_iconst (v := 4) dX12_withLevels_11 (by decide) ?_
  show zS _ _ _ _ _ _ _ 12 _ _ _ _ _
  refine z_iload1 dX12_withLevels_12 ?_
  refine z_imul dX12_withLevels_13 ?_
  refine z_ishl dX12_withLevels_14 ?_
  refine z_ior dX12_withLevels_15 ?_
  refine z_iret dX12_withLevels_16 rfl ?_
  exact ⟨rfl, rfl, rfl, rfl, rfl⟩
set_option maxRecDepth 20000 in
theorem R_X12_masked {l : Launch} {d : Nat} {D : zD} {b0 : Nat} {g : zG} {f M : zI} {o : Nat} (hW : RW b0 g o) (s a : Int32) (hd : 1 ≤ d) : zM l d D b0 mX12_masked [.int s, .int a] g (rv o f M) (zEx (some (.int (pmasked s a))) g (rv o f M)) := by
  refine zM.start zmd_X12_masked (Nat.le_of_ble_eq_true rfl) ⟨rfl, rfl, trivial⟩ [some (.int s), some (.int a), none] rfl ?_
  refine z_iload0 dX12_masked_0 ?_
  refine z_iload1 dX12_masked_1 ?_
  refine z_callSi zmd_X12_levelsOf zl_RX12_184 zst_X12_levelsOf (R_X12_levelsOf (d := d - 1) hW _ _) rfl rfl (by omega) rfl dX12_masked_2 ?_
  refine z_istore2 dX12_masked_5 ?_
  refine z_iload0 dX12_masked_6 ?_
  refine z_iload1 dX12_masked_7 ?_
  refine z_iload2 dX12_masked_8 ?_
  refine z_iconst (v := 1) dX12_masked_9 (by decide) ?_
  refine z_ishl dX12_masked_10 ?_
  refine z_bipush (v := 15) dX12_masked_11 (by decide) ?_
  refine z_iand dX12_masked_13 ?_
  show zS _ _ _ _ _ _ _ 14 _ _ _ _ _
  refine z_iload2 dX12_masked_14 ?_
  refine z_bipush (v := 8) dX12_masked_15 (by decide) ?_
  refine z_iand dX12_masked_17 ?_
  refine z_ior dX12_masked_18 ?_
  refine z_callSi zmd_X12_withLevels zl_RX12_187 zst_X12_withLevels (R_X12_withLevels (d := d - 1) hW _ _ _) rfl rfl (by omega) rfl dX12_masked_19 ?_
  refine z_iret dX12_masked_22 rfl ?_
  exact ⟨rfl, rfl, rfl, rfl, rfl⟩
set_option maxRecDepth 20000 in
theorem R_X12_handled {l : Launch} {d : Nat} {D : zD} {b0 : Nat} {g : zG} {f M : zI} {o : Nat} (hW : RW b0 g o) (s a : Int32) (hd : 1 ≤ d) : zM l d D b0 mX12_handled [.int s, .int a] g (rv o f M) (zEx (some (.int (phandled s a))) g (rv o f M)) := by
  refine zM.start zmd_X12_handled (Nat.le_of_ble_eq_true rfl) ⟨rfl, rfl, trivial⟩ [some (.int s), some (.int a), none] rfl ?_
  refine z_iload0 dX12_handled_0 ?_
  refine z_iload1 dX12_handled_1 ?_
  refine z_callSi zmd_X12_levelsOf zl_RX12_184 zst_X12_levelsOf (R_X12_levelsOf (d := d - 1) hW _ _) rfl rfl (by omega) rfl dX12_handled_2 ?_
  refine z_istore2 dX12_handled_5 ?_
  refine z_iload0 dX12_handled_6 ?_
  refine z_iload1 dX12_handled_7 ?_
  refine z_iload2 dX12_handled_8 ?_
  refine z_iconst (v := 1) dX12_handled_9 (by decide) ?_
  refine z_ishr dX12_handled_10 ?_
  refine z_iload2 dX12_handled_11 ?_
  refine z_bipush (v := 8) dX12_handled_12 (by decide) ?_
  show zS _ _ _ _ _ _ _ 14 _ _ _ _ _
  refine z_iand dX12_handled_14 ?_
  refine z_ior dX12_handled_15 ?_
  refine z_callSi zmd_X12_withLevels zl_RX12_187 zst_X12_withLevels (R_X12_withLevels (d := d - 1) hW _ _ _) rfl rfl (by omega) rfl dX12_handled_16 ?_
  refine z_iret dX12_handled_19 rfl ?_
  exact ⟨rfl, rfl, rfl, rfl, rfl⟩
set_option maxRecDepth 20000 in
theorem Rl_X12_ofHandled {l : Launch} {d : Nat} {D : zD} {b0 : Nat} {g : zG} {f M : zI} {o : Nat} (hW : RW b0 g o) (x : Int32) (hV : plpV M x) (hd : 2 ≤ d) (Q : Nat → Nat → zKT → Prop) (s0 : Int32) : ∀ (j k : Nat) (s : Int32), k + j = 6 → pofhA M x j k s = s0 → (∀ x3 : Int32, zS l d D b0 mX12_ofHandled 0 0 47 [some (.ref o), some (.int x), some (.int s0), some (.int x3)] [] g (rv o f M) Q) → zS l d D b0 mX12_ofHandled 0 0 14 [some (.ref o), some (.int x), some (.int s), some (.int (nI k))] [] g (rv o f M) Q := by
  intro j
  induction j with
  | zero =>
    intro k s hk he kk
    rw [← he] at kk
    refine z_iload3 dX12_ofHandled_14 ?_
    refine z_bipush (v := 6) dX12_ofHandled_15 (by decide) ?_
    refine z_icmp_ge (tgt := 47) dX12_ofHandled_17 (by decide) (fun c6 => ?_) (fun c6 => absurd c6 (nI_nlt (a := k) (b := 6) (by omega) (by omega)))
    exact kk _
  | succ j ih =>
    intro k s hk he kk
    refine z_iload3 dX12_ofHandled_14 ?_
    refine z_bipush (v := 6) dX12_ofHandled_15 (by decide) ?_
    refine z_icmp_ge (tgt := 47) dX12_ofHandled_17 (by decide) (fun c6 => absurd (nI_lt (b := 6) (by omega) (by decide)) c6) (fun c6 => ?_)
    show zS _ _ _ _ _ _ _ 20 _ _ _ _ _
    refine z_aload0 dX12_ofHandled_20 ?_
    refine z_iload1 dX12_ofHandled_21 ?_
    refine z_iload3 dX12_ofHandled_22 ?_
    refine z_callVi zmd_X12_clause rfl (by decide) zl_RX12_131 zin_X12_clause zsel_X12_clause (R_X12_clause (d := d - 1) hW _ _ hV.1 hV.2.1) hW.o rfl rfl (by omega) rfl dX12_ofHandled_23 ?_
    refine z_bipush (v := (-9)) dX12_ofHandled_26 (by decide) ?_
    refine z_icmp_eq (tgt := 39) dX12_ofHandled_28 (by decide) (fun c28 => ?_) (fun c28 => ?_)
    · show zS _ _ _ _ _ _ _ 39 _ _ _ _ _
      refine z_iload2 dX12_ofHandled_39 ?_
      refine z_istore2 dX12_ofHandled_40 ?_
      refine z_iinc3 (y := 1) dX12_ofHandled_41 (by decide) ?_
      refine z_goto (tgt := 14) dX12_ofHandled_44 (by decide) ?_
      rw [nI_1]
      first
        | (rw [show pofhA M x (j + 1) k s = pofhA M x j (k + 1) s from congrArg (pofhA M x j (k + 1)) (if_pos c28)] at he; exact ih _ _ (by omega) he kk)
        | (rw [show pofhA M x (j + 1) k s = pofhA M x j (k + 1) (phandled s (nI k)) from congrArg (pofhA M x j (k + 1)) (if_neg c28)] at he; exact ih _ _ (by omega) he kk)
    · show zS _ _ _ _ _ _ _ 31 _ _ _ _ _
      refine z_iload2 dX12_ofHandled_31 ?_
      refine z_iload3 dX12_ofHandled_32 ?_
      refine z_callSi zmd_X12_handled zl_RX12_191 zst_X12_handled (R_X12_handled (d := d - 1) hW _ _ (by omega)) rfl rfl (by omega) rfl dX12_ofHandled_33 ?_
      refine z_goto (tgt := 40) dX12_ofHandled_36 (by decide) ?_
      show zS _ _ _ _ _ _ _ 40 _ _ _ _ _
      refine z_istore2 dX12_ofHandled_40 ?_
      refine z_iinc3 (y := 1) dX12_ofHandled_41 (by decide) ?_
      refine z_goto (tgt := 14) dX12_ofHandled_44 (by decide) ?_
      rw [nI_1]
      first
        | (rw [show pofhA M x (j + 1) k s = pofhA M x j (k + 1) s from congrArg (pofhA M x j (k + 1)) (if_pos c28)] at he; exact ih _ _ (by omega) he kk)
        | (rw [show pofhA M x (j + 1) k s = pofhA M x j (k + 1) (phandled s (nI k)) from congrArg (pofhA M x j (k + 1)) (if_neg c28)] at he; exact ih _ _ (by omega) he kk)
set_option maxRecDepth 20000 in
theorem R_X12_ofHandled {l : Launch} {d : Nat} {D : zD} {b0 : Nat} {g : zG} {f M : zI} {o : Nat} (hW : RW b0 g o) (x : Int32) (hV : plpV M x) (h1 : iv 65000 (ppart M x 1)) (hd : 2 ≤ d) : zM l d D b0 mX12_ofHandled [.ref o, .int x] g (rv o f M) (zEx (some (.int (pofh M x))) g (rv o f M)) := by
  have h11 := h1.1
  refine zM.start zmd_X12_ofHandled (Nat.le_of_ble_eq_true rfl) ⟨rfl, rfl, trivial⟩ [some (.ref o), some (.int x), none, none] rfl ?_
  refine z_aload0 dX12_ofHandled_0 ?_
  refine z_getRs fl_RX12_53 (by decide) hW.o (hW.r 13 rfl) dX12_ofHandled_1 ?_
  refine z_aload0 dX12_ofHandled_4 ?_
  refine z_iload1 dX12_ofHandled_5 ?_
  refine z_iconst (v := 1) dX12_ofHandled_6 (by decide) ?_
  refine z_callVi zmd_X12_part rfl (by decide) zl_RX12_165 zin_X12_part zsel_X12_part (R_X12_part (d := d - 1) hW _ hV.1 _ (⟨by decide, by decide⟩ : iv 4 (1 : Int32))) hW.o rfl rfl (by omega) rfl dX12_ofHandled_7 ?_
  refine zr_ld hW (i := 13) rfl (by decide) (by decide) h1.2 (by omega) dX12_ofHandled_10 ?_
  refine z_istore2 dX12_ofHandled_11 ?_
  refine z_iconst (v := 0) dX12_ofHandled_12 (by decide) ?_
  refine z_istore3 dX12_ofHandled_13 ?_
  refine Rl_X12_ofHandled hW x hV hd _ _ 6 0 _ (by omega) rfl (fun x3 => ?_)
  show zS _ _ _ _ _ _ _ 47 _ _ _ _ _
  refine z_iload2 dX12_ofHandled_47 ?_
  refine z_aload0 dX12_ofHandled_48 ?_
  refine z_getRs fl_RX12_56 (by decide) hW.o (hW.r 14 rfl) dX12_ofHandled_49 ?_
  refine z_aload0 dX12_ofHandled_52 ?_
  refine z_iload1 dX12_ofHandled_53 ?_
  refine z_iconst (v := 1) dX12_ofHandled_54 (by decide) ?_
  refine z_callVi zmd_X12_part rfl (by decide) zl_RX12_165 zin_X12_part zsel_X12_part (R_X12_part (d := d - 1) hW _ hV.1 _ (⟨by decide, by decide⟩ : iv 4 (1 : Int32))) hW.o rfl rfl (by omega) rfl dX12_ofHandled_55 ?_
  refine zr_ld hW (i := 14) rfl (by decide) (by decide) h1.2 (by omega) dX12_ofHandled_58 ?_
  refine z_ior dX12_ofHandled_59 ?_
  refine z_iret dX12_ofHandled_60 rfl ?_
  exact ⟨rfl, rfl, rfl, rfl, rfl⟩
set_option maxRecDepth 20000 in
theorem Rl_X12_leavesBy_c {l : Launch} {d : Nat} {D : zD} {b0 : Nat} {g : zG} {f M : zI} {o : Nat} (hW : RW b0 g o) (x y : Int32) (Q : Nat → Nat → zKT → Prop) (s0 : Int32) : ∀ (k : Nat) (c s : Int32), pclV M k c → pchA M 14 k c s = s0 → (∀ x4 : Int32, zS l d D b0 mX12_leavesBy 0 0 88 [some (.ref o), some (.int x), some (.int y), some (.int s0), some (.int x4)] [] g (rv o f M) Q) → zS l d D b0 mX12_leavesBy 0 0 55 [some (.ref o), some (.int x), some (.int y), some (.int s), some (.int c)] [] g (rv o f M) Q := by
  intro k
  induction k with
  | zero => intro c s hV; exact absurd hV id
  | succ k ih =>
    intro c s hV he kk
    refine z_iload4 dX12_leavesBy_55 ?_
    refine z_bipush (v := (-9)) dX12_leavesBy_57 (by decide) ?_
    refine z_icmp_eq (tgt := 88) dX12_leavesBy_59 (by decide) (fun c57 => ?_) (fun c57 => ?_)
    · rw [show pchA M 14 (k + 1) c s = s from if_pos c57] at he
      rw [he]
      exact kk _
    have hv : iv 65000 c := (hV.resolve_left c57).1
    have hv1 := hv.1
    show zS _ _ _ _ _ _ _ 62 _ _ _ _ _
    refine z_iload3 dX12_leavesBy_62 ?_
    refine z_aload0 dX12_leavesBy_63 ?_
    refine z_getRs fl_RX12_53 (by decide) hW.o (hW.r 13 rfl) dX12_leavesBy_64 ?_
    refine z_iload4 dX12_leavesBy_67 ?_
    refine zr_ld hW (i := 13) rfl (by decide) (by decide) hv.2 (by omega) dX12_leavesBy_69 ?_
    refine z_ior dX12_leavesBy_70 ?_
    refine z_istore3 dX12_leavesBy_71 ?_
    refine z_aload0 dX12_leavesBy_72 ?_
    refine z_getRs fl_RX12_8 (by decide) hW.o (hW.r 0 rfl) dX12_leavesBy_73 ?_
    refine z_iconst (v := 5) dX12_leavesBy_76 (by decide) ?_
    refine z_iload4 dX12_leavesBy_77 ?_
    show zS _ _ _ _ _ _ _ 79 _ _ _ _ _
    refine z_imul dX12_leavesBy_79 ?_
    refine z_iconst (v := 3) dX12_leavesBy_80 (by decide) ?_
    refine z_iadd dX12_leavesBy_81 ?_
    refine zr_ld hW (i := 0) rfl (by decide) (by decide) (ixA (ixM (ixC 5) hv.2) (ixC 3)) (by omega) dX12_leavesBy_82 ?_
    refine z_istore4 dX12_leavesBy_83 ?_
    refine z_goto (tgt := 55) dX12_leavesBy_85 (by decide) ?_
    rw [show pchA M 14 (k + 1) c s = _ from if_neg c57] at he
    exact ih _ _ (hV.resolve_left c57).2 he kk
set_option maxRecDepth 20000 in
theorem Rl_X12_lateBy_c {l : Launch} {d : Nat} {D : zD} {b0 : Nat} {g : zG} {f M : zI} {o : Nat} (hW : RW b0 g o) (x y : Int32) (Q : Nat → Nat → zKT → Prop) (s0 : Int32) : ∀ (k : Nat) (c s : Int32), pclV M k c → pchA M 15 k c s = s0 → (∀ x4 : Int32, zS l d D b0 mX12_lateBy 0 0 76 [some (.ref o), some (.int x), some (.int y), some (.int s0), some (.int x4)] [] g (rv o f M) Q) → zS l d D b0 mX12_lateBy 0 0 43 [some (.ref o), some (.int x), some (.int y), some (.int s), some (.int c)] [] g (rv o f M) Q := by
  intro k
  induction k with
  | zero => intro c s hV; exact absurd hV id
  | succ k ih =>
    intro c s hV he kk
    refine z_iload4 dX12_lateBy_43 ?_
    refine z_bipush (v := (-9)) dX12_lateBy_45 (by decide) ?_
    refine z_icmp_eq (tgt := 76) dX12_lateBy_47 (by decide) (fun c57 => ?_) (fun c57 => ?_)
    · rw [show pchA M 15 (k + 1) c s = s from if_pos c57] at he
      rw [he]
      exact kk _
    have hv : iv 65000 c := (hV.resolve_left c57).1
    have hv1 := hv.1
    show zS _ _ _ _ _ _ _ 50 _ _ _ _ _
    refine z_iload3 dX12_lateBy_50 ?_
    refine z_aload0 dX12_lateBy_51 ?_
    refine z_getRs fl_RX12_56 (by decide) hW.o (hW.r 14 rfl) dX12_lateBy_52 ?_
    refine z_iload4 dX12_lateBy_55 ?_
    refine zr_ld hW (i := 14) rfl (by decide) (by decide) hv.2 (by omega) dX12_lateBy_57 ?_
    refine z_ior dX12_lateBy_58 ?_
    refine z_istore3 dX12_lateBy_59 ?_
    refine z_aload0 dX12_lateBy_60 ?_
    refine z_getRs fl_RX12_8 (by decide) hW.o (hW.r 0 rfl) dX12_lateBy_61 ?_
    refine z_iconst (v := 5) dX12_lateBy_64 (by decide) ?_
    refine z_iload4 dX12_lateBy_65 ?_
    show zS _ _ _ _ _ _ _ 67 _ _ _ _ _
    refine z_imul dX12_lateBy_67 ?_
    refine z_iconst (v := 3) dX12_lateBy_68 (by decide) ?_
    refine z_iadd dX12_lateBy_69 ?_
    refine zr_ld hW (i := 0) rfl (by decide) (by decide) (ixA (ixM (ixC 5) hv.2) (ixC 3)) (by omega) dX12_lateBy_70 ?_
    refine z_istore4 dX12_lateBy_71 ?_
    refine z_goto (tgt := 43) dX12_lateBy_73 (by decide) ?_
    rw [show pchA M 15 (k + 1) c s = _ from if_neg c57] at he
    exact ih _ _ (hV.resolve_left c57).2 he kk
set_option maxRecDepth 20000 in
theorem Rl_X12_leavesBy_p {l : Launch} {d : Nat} {D : zD} {b0 : Nat} {g : zG} {f M : zI} {o : Nat} (hW : RW b0 g o) (x y : Int32) (n : Nat) (hn : n ≤ 3) (hpn : pparts y = nI n) (hx : iv 65000 x) (hp : ∀ k, 1 ≤ k → k ≤ n → iv 65000 (ppart M x (nI k))) (hd : 1 ≤ d) (Q : Nat → Nat → zKT → Prop) (s0 : Int32) : ∀ (j k : Nat) (s : Int32), k + j = n + 1 → 1 ≤ k → pprA M 14 x j k s = s0 → (∀ x4 : Int32, zS l d D b0 mX12_leavesBy 0 0 125 [some (.ref o), some (.int x), some (.int y), some (.int s0), some (.int x4)] [] g (rv o f M) Q) → zS l d D b0 mX12_leavesBy 0 0 95 [some (.ref o), some (.int x), some (.int y), some (.int s), some (.int (nI k))] [] g (rv o f M) Q := by
  intro j
  induction j with
  | zero =>
    intro k s hk h1 he kk
    rw [← he] at kk
    refine z_iload4 dX12_leavesBy_95 ?_
    refine z_iload2 dX12_leavesBy_97 ?_
    refine z_callSi zmd_X12_parts zl_RX12_144 zst_X12_parts (R_X12_parts (d := d - 1) (M := M) hW _) rfl rfl (by omega) rfl dX12_leavesBy_98 ?_
    rw [hpn]
    refine z_icmp_gt (tgt := 125) dX12_leavesBy_101 (by decide) (fun c6 => ?_) (fun c6 => absurd (nI_lt (by omega) (by omega)) c6)
    exact kk _
  | succ j ih =>
    intro k s hk h1 he kk
    have hpk := hp k h1 (by omega)
    have hpk1 := hpk.1
    refine z_iload4 dX12_leavesBy_95 ?_
    refine z_iload2 dX12_leavesBy_97 ?_
    refine z_callSi zmd_X12_parts zl_RX12_144 zst_X12_parts (R_X12_parts (d := d - 1) (M := M) hW _) rfl rfl (by omega) rfl dX12_leavesBy_98 ?_
    rw [hpn]
    refine z_icmp_gt (tgt := 125) dX12_leavesBy_101 (by decide) (fun c6 => absurd c6 (nI_nlt (by omega) (by omega))) (fun c6 => ?_)
    show zS _ _ _ _ _ _ _ 104 _ _ _ _ _
    refine z_iload3 dX12_leavesBy_104 ?_
    refine z_aload0 dX12_leavesBy_105 ?_
    refine z_getRs fl_RX12_53 (by decide) hW.o (hW.r 13 rfl) dX12_leavesBy_106 ?_
    refine z_aload0 dX12_leavesBy_109 ?_
    refine z_iload1 dX12_leavesBy_110 ?_
    refine z_iload4 dX12_leavesBy_111 ?_
    refine z_callVi zmd_X12_part rfl (by decide) zl_RX12_165 zin_X12_part zsel_X12_part (R_X12_part (d := d - 1) hW _ hx _ (iv_nI (by omega) (by decide))) hW.o rfl rfl (by omega) rfl dX12_leavesBy_113 ?_
    refine zr_ld hW (i := 13) rfl (by decide) (by decide) hpk.2 (by omega) dX12_leavesBy_116 ?_
    refine z_ior dX12_leavesBy_117 ?_
    refine z_istore3 dX12_leavesBy_118 ?_
    refine z_iinc4 (y := 1) dX12_leavesBy_119 (by decide) ?_
    show zS _ _ _ _ _ _ _ 122 _ _ _ _ _
    refine z_goto (tgt := 95) dX12_leavesBy_122 (by decide) ?_
    rw [nI_1]
    exact ih _ _ (by omega) (by omega) he kk
set_option maxRecDepth 20000 in
theorem Rl_X12_lateBy_p {l : Launch} {d : Nat} {D : zD} {b0 : Nat} {g : zG} {f M : zI} {o : Nat} (hW : RW b0 g o) (x y : Int32) (n : Nat) (hn : n ≤ 3) (hpn : pparts y = nI n) (hx : iv 65000 x) (h16 : ¬ y = 16) (hp : ∀ k, 1 ≤ k → k ≤ n → iv 65000 (ppart M x (nI k))) (hd : 1 ≤ d) (Q : Nat → Nat → zKT → Prop) (s0 : Int32) : ∀ (j k : Nat) (s : Int32), k + j = n + 1 → 1 ≤ k → pprA M 15 x j k s = s0 → (∀ x4 : Int32, zS l d D b0 mX12_lateBy 0 0 117 [some (.ref o), some (.int x), some (.int y), some (.int s0), some (.int x4)] [] g (rv o f M) Q) → zS l d D b0 mX12_lateBy 0 0 81 [some (.ref o), some (.int x), some (.int y), some (.int s), some (.int (nI k))] [] g (rv o f M) Q := by
  intro j
  induction j with
  | zero =>
    intro k s hk h1 he kk
    rw [← he] at kk
    refine z_iload2 dX12_lateBy_81 ?_
    refine z_bipush (v := 16) dX12_lateBy_82 (by decide) ?_
    refine z_icmp_eq (tgt := 117) dX12_lateBy_84 (by decide) (fun c => absurd c h16) (fun c => ?_)
    refine z_iload4 dX12_lateBy_87 ?_
    refine z_iload2 dX12_lateBy_89 ?_
    refine z_callSi zmd_X12_parts zl_RX12_144 zst_X12_parts (R_X12_parts (d := d - 1) (M := M) hW _) rfl rfl (by omega) rfl dX12_lateBy_90 ?_
    rw [hpn]
    refine z_icmp_gt (tgt := 117) dX12_lateBy_93 (by decide) (fun c6 => ?_) (fun c6 => absurd (nI_lt (by omega) (by omega)) c6)
    exact kk _
  | succ j ih =>
    intro k s hk h1 he kk
    have hpk := hp k h1 (by omega)
    have hpk1 := hpk.1
    refine z_iload2 dX12_lateBy_81 ?_
    refine z_bipush (v := 16) dX12_lateBy_82 (by decide) ?_
    refine z_icmp_eq (tgt := 117) dX12_lateBy_84 (by decide) (fun c => absurd c h16) (fun c => ?_)
    refine z_iload4 dX12_lateBy_87 ?_
    refine z_iload2 dX12_lateBy_89 ?_
    refine z_callSi zmd_X12_parts zl_RX12_144 zst_X12_parts (R_X12_parts (d := d - 1) (M := M) hW _) rfl rfl (by omega) rfl dX12_lateBy_90 ?_
    rw [hpn]
    refine z_icmp_gt (tgt := 117) dX12_lateBy_93 (by decide) (fun c6 => absurd c6 (nI_nlt (by omega) (by omega))) (fun c6 => ?_)
    show zS _ _ _ _ _ _ _ 96 _ _ _ _ _
    refine z_iload3 dX12_lateBy_96 ?_
    refine z_aload0 dX12_lateBy_97 ?_
    refine z_getRs fl_RX12_56 (by decide) hW.o (hW.r 14 rfl) dX12_lateBy_98 ?_
    refine z_aload0 dX12_lateBy_101 ?_
    refine z_iload1 dX12_lateBy_102 ?_
    refine z_iload4 dX12_lateBy_103 ?_
    refine z_callVi zmd_X12_part rfl (by decide) zl_RX12_165 zin_X12_part zsel_X12_part (R_X12_part (d := d - 1) hW _ hx _ (iv_nI (by omega) (by decide))) hW.o rfl rfl (by omega) rfl dX12_lateBy_105 ?_
    refine zr_ld hW (i := 14) rfl (by decide) (by decide) hpk.2 (by omega) dX12_lateBy_108 ?_
    refine z_ior dX12_lateBy_109 ?_
    refine z_istore3 dX12_lateBy_110 ?_
    refine z_iinc4 (y := 1) dX12_lateBy_111 (by decide) ?_
    show zS _ _ _ _ _ _ _ 114 _ _ _ _ _
    refine z_goto (tgt := 81) dX12_lateBy_114 (by decide) ?_
    rw [nI_1]
    exact ih _ _ (by omega) (by omega) he kk
theorem pofh_s {M : zI} {x : Int32} : True := trivial
theorem plv_1 {M : zI} {x : Int32} (h0 : ¬ pkind M x < 2) (h1 : ¬ pkind M x = 16) (h2 : ¬ pkind M x = 15) : pleaves M x = plvE M x (pprA M 14 x (tn (pparts (pkind M x))) 1 0) := (if_neg h0).trans ((if_neg h1).trans (if_neg h2))
set_option maxRecDepth 20000 in
theorem Rt_X12_leavesBy {l : Launch} {d : Nat} {D : zD} {b0 : Nat} {g : zG} {f M : zI} {o : Nat} (hW : RW b0 g o) (x s y : Int32) (hx : iv 65000 x) (hd : 2 ≤ d) (h13 : pkind M x = 13 → iv 4 (parg M x) ∧ (¬ M 2 (1 + tn (parg M x)) = -9 → iv 65000 (M 2 (1 + tn (parg M x))))) (h14 : pkind M x = 14 → iv 65000 (M 1 (5 * tn x + 4))) : zS l d D b0 mX12_leavesBy 0 0 125 [some (.ref o), some (.int x), some (.int (pkind M x)), some (.int s), some (.int y)] [] g (rv o f M) (zq D b0 (zEx (some (.int (plvE M x s))) g (rv o f M))) := by
  show zS _ _ _ _ _ _ _ 125 _ _ _ _ _
  refine z_iload2 dX12_leavesBy_125 ?_
  refine z_tab dX12_leavesBy_126 (by decide +kernel) (by decide +kernel) ?_
  refine ⟨fun c126_0 => ?_, fun nc126_0 => ?_⟩
  · show zS _ _ _ _ _ _ _ 160 _ _ _ _ _
    refine z_iload3 dX12_leavesBy_160 ?_
    refine z_iconst (v := 1) dX12_leavesBy_161 (by decide) ?_
    refine z_iconst (v := 4) dX12_leavesBy_162 (by decide) ?_
    refine z_aload0 dX12_leavesBy_163 ?_
    refine z_iload1 dX12_leavesBy_164 ?_
    refine z_callVi zmd_X12_argument rfl (by decide) zl_RX12_137 zin_X12_argument zsel_X12_argument (R_X12_argument (d := d - 1) hW _ hx) hW.o rfl rfl (by omega) rfl dX12_leavesBy_165 ?_
    refine z_imul dX12_leavesBy_168 ?_
    refine z_ishl dX12_leavesBy_169 ?_
    refine z_ior dX12_leavesBy_170 ?_
    refine z_iret dX12_leavesBy_171 rfl ?_
    refine ⟨congrArg (fun z => some (Value.int z)) ?_, rfl, rfl, rfl, rfl⟩
    unfold plvE
    rw [show pkind M x = 10 from c126_0]; rfl
  refine ⟨fun c126_1 => ?_, fun nc126_1 => ?_⟩
  · show zS _ _ _ _ _ _ _ 172 _ _ _ _ _
    refine z_iload3 dX12_leavesBy_172 ?_
    refine z_aload0 dX12_leavesBy_173 ?_
    refine z_iload1 dX12_leavesBy_174 ?_
    refine z_callVi zmd_X12_argument rfl (by decide) zl_RX12_137 zin_X12_argument zsel_X12_argument (R_X12_argument (d := d - 1) hW _ hx) hW.o rfl rfl (by omega) rfl dX12_leavesBy_175 ?_
    refine z_callSi zmd_X12_masked zl_RX12_197 zst_X12_masked (R_X12_masked (d := d - 1) hW _ _ (by omega)) rfl rfl (by omega) rfl dX12_leavesBy_178 ?_
    refine z_iret dX12_leavesBy_181 rfl ?_
    refine ⟨congrArg (fun z => some (Value.int z)) ?_, rfl, rfl, rfl, rfl⟩
    unfold plvE
    rw [show pkind M x = 11 from c126_1]; rfl
  refine ⟨fun c126_2 => ?_, fun nc126_2 => ?_⟩
  · show zS _ _ _ _ _ _ _ 241 _ _ _ _ _
    refine z_iload3 dX12_leavesBy_241 ?_
    refine z_iret dX12_leavesBy_242 rfl ?_
    refine ⟨congrArg (fun z => some (Value.int z)) ?_, rfl, rfl, rfl, rfl⟩
    unfold plvE
    first | (rw [show pkind M x = 12 from c126_2]; rfl) | exact ((if_neg nc126_0).trans ((if_neg nc126_1).trans ((if_neg nc126_2).trans ((if_neg nc126_3).trans (if_neg nc126_4))))).symm
  refine ⟨fun c126_3 => ?_, fun nc126_3 => ?_⟩
  · show zS _ _ _ _ _ _ _ 182 _ _ _ _ _
    refine z_iload3 dX12_leavesBy_182 ?_
    refine z_aload0 dX12_leavesBy_183 ?_
    refine z_getRs fl_RX12_14 (by decide) hW.o (hW.r 1 rfl) dX12_leavesBy_184 ?_
    refine z_iconst (v := 1) dX12_leavesBy_187 (by decide) ?_
    refine z_aload0 dX12_leavesBy_188 ?_
    refine z_iload1 dX12_leavesBy_189 ?_
    have kk : pkind M x = 13 := c126_3
    have hb1 := (h13 kk).1.1
    refine z_callVi zmd_X12_argument rfl (by decide) zl_RX12_137 zin_X12_argument zsel_X12_argument (R_X12_argument (d := d - 1) hW _ hx) hW.o rfl rfl (by omega) rfl dX12_leavesBy_190 ?_
    refine z_iadd dX12_leavesBy_193 ?_
    refine zr_ld hW (i := 1) rfl (by decide) (by decide) (ixA (ixC 1) (h13 kk).1.2) (by omega) dX12_leavesBy_194 ?_
    refine z_bipush (v := (-9)) dX12_leavesBy_195 (by decide) ?_
    refine z_icmp_eq (tgt := 220) dX12_leavesBy_197 (by decide) (fun c197 => ?_) (fun c197 => ?_)
    · show zS _ _ _ _ _ _ _ 220 _ _ _ _ _
      refine z_iconst (v := 0) dX12_leavesBy_220 (by decide) ?_
      refine z_ior dX12_leavesBy_221 ?_
      refine z_iret dX12_leavesBy_222 rfl ?_
      refine ⟨congrArg (fun z => some (Value.int z)) ?_, rfl, rfl, rfl, rfl⟩
      unfold plvE
      rw [kk]
      show _ = s ||| pcal M 14 x
      unfold pcal
      first | (rw [if_pos c197]; done) | (rw [if_neg c197]; done)
    · show zS _ _ _ _ _ _ _ 200 _ _ _ _ _
      refine z_aload0 dX12_leavesBy_200 ?_
      refine z_getRs fl_RX12_53 (by decide) hW.o (hW.r 13 rfl) dX12_leavesBy_201 ?_
      refine z_aload0 dX12_leavesBy_204 ?_
      refine z_getRs fl_RX12_14 (by decide) hW.o (hW.r 1 rfl) dX12_leavesBy_205 ?_
      refine z_iconst (v := 1) dX12_leavesBy_208 (by decide) ?_
      refine z_aload0 dX12_leavesBy_209 ?_
      refine z_iload1 dX12_leavesBy_210 ?_
      refine z_callVi zmd_X12_argument rfl (by decide) zl_RX12_137 zin_X12_argument zsel_X12_argument (R_X12_argument (d := d - 1) hW _ hx) hW.o rfl rfl (by omega) rfl dX12_leavesBy_211 ?_
      refine z_iadd dX12_leavesBy_214 ?_
      refine zr_ld hW (i := 1) rfl (by decide) (by decide) (ixA (ixC 1) (h13 kk).1.2) (by omega) dX12_leavesBy_215 ?_
      have hb2 := ((h13 kk).2 c197).1
      refine zr_ld hW (i := 13) rfl (by decide) (by decide) ((h13 kk).2 c197).2 (by omega) dX12_leavesBy_216 ?_
      show zS _ _ _ _ _ _ _ 217 _ _ _ _ _
      refine z_goto (tgt := 221) dX12_leavesBy_217 (by decide) ?_
      show zS _ _ _ _ _ _ _ 221 _ _ _ _ _
      refine z_ior dX12_leavesBy_221 ?_
      refine z_iret dX12_leavesBy_222 rfl ?_
      refine ⟨congrArg (fun z => some (Value.int z)) ?_, rfl, rfl, rfl, rfl⟩
      unfold plvE
      rw [kk]
      show _ = s ||| pcal M 14 x
      unfold pcal
      first | (rw [if_pos c197]; done) | (rw [if_neg c197]; done)
  refine ⟨fun c126_4 => ?_, fun nc126_4 => ?_⟩
  · show zS _ _ _ _ _ _ _ 223 _ _ _ _ _
    refine z_iload3 dX12_leavesBy_223 ?_
    refine z_aload0 dX12_leavesBy_224 ?_
    refine z_getRs fl_RX12_53 (by decide) hW.o (hW.r 13 rfl) dX12_leavesBy_225 ?_
    refine z_aload0 dX12_leavesBy_228 ?_
    refine z_getRs fl_RX12_8 (by decide) hW.o (hW.r 0 rfl) dX12_leavesBy_229 ?_
    refine z_iconst (v := 5) dX12_leavesBy_232 (by decide) ?_
    refine z_iload1 dX12_leavesBy_233 ?_
    refine z_imul dX12_leavesBy_234 ?_
    refine z_iconst (v := 4) dX12_leavesBy_235 (by decide) ?_
    refine z_iadd dX12_leavesBy_236 ?_
    have kk4 : pkind M x = 14 := c126_4
    have hb3 := (h14 kk4).1
    have hx1 := hx.1
    refine zr_ld hW (i := 0) rfl (by decide) (by decide) (ixA (ixM (ixC 5) hx.2) (ixC 4)) (by omega) dX12_leavesBy_237 ?_
    show zS _ _ _ _ _ _ _ 238 _ _ _ _ _
    refine zr_ld hW (i := 13) rfl (by decide) (by decide) (h14 kk4).2 (by omega) dX12_leavesBy_238 ?_
    refine z_ior dX12_leavesBy_239 ?_
    refine z_iret dX12_leavesBy_240 rfl ?_
    refine ⟨congrArg (fun z => some (Value.int z)) ?_, rfl, rfl, rfl, rfl⟩
    unfold plvE
    rw [kk4]; rfl
  show zS _ _ _ _ _ _ _ 241 _ _ _ _ _
  refine z_iload3 dX12_leavesBy_241 ?_
  refine z_iret dX12_leavesBy_242 rfl ?_
  refine ⟨congrArg (fun z => some (Value.int z)) ?_, rfl, rfl, rfl, rfl⟩
  unfold plvE
  first | (rw [show pkind M x = 12 from c126_2]; rfl) | exact ((if_neg nc126_0).trans ((if_neg nc126_1).trans ((if_neg nc126_2).trans ((if_neg nc126_3).trans (if_neg nc126_4))))).symm
set_option maxRecDepth 20000 in
theorem Rt_X12_lateBy {l : Launch} {d : Nat} {D : zD} {b0 : Nat} {g : zG} {f M : zI} {o : Nat} (hW : RW b0 g o) (x s y : Int32) (hx : iv 65000 x) (h12 : pkind M x = 12 → iv 65000 (ppart M x 2)) (hd : 2 ≤ d) (h13 : pkind M x = 13 → iv 4 (parg M x) ∧ (¬ M 2 (1 + tn (parg M x)) = -9 → iv 65000 (M 2 (1 + tn (parg M x))))) (h14 : pkind M x = 14 → iv 65000 (M 1 (5 * tn x + 4))) : zS l d D b0 mX12_lateBy 0 0 117 [some (.ref o), some (.int x), some (.int (pkind M x)), some (.int s), some (.int y)] [] g (rv o f M) (zq D b0 (zEx (some (.int (pltE M x s))) g (rv o f M))) := by
  show zS _ _ _ _ _ _ _ 117 _ _ _ _ _
  refine z_iload2 dX12_lateBy_117 ?_
  refine z_tab dX12_lateBy_118 (by decide +kernel) (by decide +kernel) ?_
  refine ⟨fun c118_0 => ?_, fun nc118_0 => ?_⟩
  · show zS _ _ _ _ _ _ _ 144 _ _ _ _ _
    refine z_iload3 dX12_lateBy_144 ?_
    refine z_aload0 dX12_lateBy_145 ?_
    refine z_getRs fl_RX12_53 (by decide) hW.o (hW.r 13 rfl) dX12_lateBy_146 ?_
    refine z_aload0 dX12_lateBy_149 ?_
    refine z_iload1 dX12_lateBy_150 ?_
    refine z_iconst (v := 2) dX12_lateBy_151 (by decide) ?_
    have hp2 := h12 (show pkind M x = 12 from c118_0)
    have hp3 := hp2.1
    refine z_callVi zmd_X12_part rfl (by decide) zl_RX12_165 zin_X12_part zsel_X12_part (R_X12_part (d := d - 1) hW _ hx _ (⟨by decide, by decide⟩ : iv 4 (2 : Int32))) hW.o rfl rfl (by omega) rfl dX12_lateBy_152 ?_
    refine zr_ld hW (i := 13) rfl (by decide) (by decide) hp2.2 (by omega) dX12_lateBy_155 ?_
    refine z_ior dX12_lateBy_156 ?_
    refine z_iret dX12_lateBy_157 rfl ?_
    refine ⟨congrArg (fun z => some (Value.int z)) ?_, rfl, rfl, rfl, rfl⟩
    unfold pltE
    rw [show pkind M x = 12 from c118_0]; rfl
  refine ⟨fun c118_1 => ?_, fun nc118_1 => ?_⟩
  · show zS _ _ _ _ _ _ _ 158 _ _ _ _ _
    refine z_iload3 dX12_lateBy_158 ?_
    refine z_aload0 dX12_lateBy_159 ?_
    refine z_getRs fl_RX12_14 (by decide) hW.o (hW.r 1 rfl) dX12_lateBy_160 ?_
    refine z_iconst (v := 1) dX12_lateBy_163 (by decide) ?_
    refine z_aload0 dX12_lateBy_164 ?_
    refine z_iload1 dX12_lateBy_165 ?_
    have kk : pkind M x = 13 := c118_1
    have hb1 := (h13 kk).1.1
    refine z_callVi zmd_X12_argument rfl (by decide) zl_RX12_137 zin_X12_argument zsel_X12_argument (R_X12_argument (d := d - 1) hW _ hx) hW.o rfl rfl (by omega) rfl dX12_lateBy_166 ?_
    refine z_iadd dX12_lateBy_169 ?_
    refine zr_ld hW (i := 1) rfl (by decide) (by decide) (ixA (ixC 1) (h13 kk).1.2) (by omega) dX12_lateBy_170 ?_
    refine z_bipush (v := (-9)) dX12_lateBy_171 (by decide) ?_
    refine z_icmp_eq (tgt := 196) dX12_lateBy_173 (by decide) (fun c173 => ?_) (fun c173 => ?_)
    · show zS _ _ _ _ _ _ _ 196 _ _ _ _ _
      refine z_iconst (v := 0) dX12_lateBy_196 (by decide) ?_
      refine z_ior dX12_lateBy_197 ?_
      refine z_iret dX12_lateBy_198 rfl ?_
      refine ⟨congrArg (fun z => some (Value.int z)) ?_, rfl, rfl, rfl, rfl⟩
      unfold pltE
      rw [kk]
      show _ = s ||| pcal M 15 x
      unfold pcal
      first | (rw [if_pos c173]; done) | (rw [if_neg c173]; done)
    · show zS _ _ _ _ _ _ _ 176 _ _ _ _ _
      refine z_aload0 dX12_lateBy_176 ?_
      refine z_getRs fl_RX12_56 (by decide) hW.o (hW.r 14 rfl) dX12_lateBy_177 ?_
      refine z_aload0 dX12_lateBy_180 ?_
      refine z_getRs fl_RX12_14 (by decide) hW.o (hW.r 1 rfl) dX12_lateBy_181 ?_
      refine z_iconst (v := 1) dX12_lateBy_184 (by decide) ?_
      refine z_aload0 dX12_lateBy_185 ?_
      refine z_iload1 dX12_lateBy_186 ?_
      refine z_callVi zmd_X12_argument rfl (by decide) zl_RX12_137 zin_X12_argument zsel_X12_argument (R_X12_argument (d := d - 1) hW _ hx) hW.o rfl rfl (by omega) rfl dX12_lateBy_187 ?_
      refine z_iadd dX12_lateBy_190 ?_
      refine zr_ld hW (i := 1) rfl (by decide) (by decide) (ixA (ixC 1) (h13 kk).1.2) (by omega) dX12_lateBy_191 ?_
      have hb2 := ((h13 kk).2 c173).1
      refine zr_ld hW (i := 14) rfl (by decide) (by decide) ((h13 kk).2 c173).2 (by omega) dX12_lateBy_192 ?_
      show zS _ _ _ _ _ _ _ 193 _ _ _ _ _
      refine z_goto (tgt := 197) dX12_lateBy_193 (by decide) ?_
      show zS _ _ _ _ _ _ _ 197 _ _ _ _ _
      refine z_ior dX12_lateBy_197 ?_
      refine z_iret dX12_lateBy_198 rfl ?_
      refine ⟨congrArg (fun z => some (Value.int z)) ?_, rfl, rfl, rfl, rfl⟩
      unfold pltE
      rw [kk]
      show _ = s ||| pcal M 15 x
      unfold pcal
      first | (rw [if_pos c173]; done) | (rw [if_neg c173]; done)
  refine ⟨fun c118_2 => ?_, fun nc118_2 => ?_⟩
  · show zS _ _ _ _ _ _ _ 199 _ _ _ _ _
    refine z_iload3 dX12_lateBy_199 ?_
    refine z_aload0 dX12_lateBy_200 ?_
    refine z_getRs fl_RX12_56 (by decide) hW.o (hW.r 14 rfl) dX12_lateBy_201 ?_
    refine z_aload0 dX12_lateBy_204 ?_
    refine z_getRs fl_RX12_8 (by decide) hW.o (hW.r 0 rfl) dX12_lateBy_205 ?_
    refine z_iconst (v := 5) dX12_lateBy_208 (by decide) ?_
    refine z_iload1 dX12_lateBy_209 ?_
    refine z_imul dX12_lateBy_210 ?_
    refine z_iconst (v := 4) dX12_lateBy_211 (by decide) ?_
    refine z_iadd dX12_lateBy_212 ?_
    have kk4 : pkind M x = 14 := c118_2
    have hb3 := (h14 kk4).1
    have hx1 := hx.1
    refine zr_ld hW (i := 0) rfl (by decide) (by decide) (ixA (ixM (ixC 5) hx.2) (ixC 4)) (by omega) dX12_lateBy_213 ?_
    show zS _ _ _ _ _ _ _ 214 _ _ _ _ _
    refine zr_ld hW (i := 14) rfl (by decide) (by decide) (h14 kk4).2 (by omega) dX12_lateBy_214 ?_
    refine z_ior dX12_lateBy_215 ?_
    refine z_iret dX12_lateBy_216 rfl ?_
    refine ⟨congrArg (fun z => some (Value.int z)) ?_, rfl, rfl, rfl, rfl⟩
    unfold pltE
    rw [kk4]; rfl
  show zS _ _ _ _ _ _ _ 217 _ _ _ _ _
  refine z_iload3 dX12_lateBy_217 ?_
  refine z_iret dX12_lateBy_218 rfl ?_
  refine ⟨congrArg (fun z => some (Value.int z)) ?_, rfl, rfl, rfl, rfl⟩
  unfold pltE
  exact ((if_neg nc118_0).trans ((if_neg nc118_1).trans (if_neg nc118_2))).symm
set_option maxRecDepth 20000 in
theorem R_X12_leavesBy {l : Launch} {d : Nat} {D : zD} {b0 : Nat} {g : zG} {f M : zI} {o : Nat} (hW : RW b0 g o) (x : Int32) (hV : pnV M x) (hd : 3 ≤ d) : zM l d D b0 mX12_leavesBy [.ref o, .int x] g (rv o f M) (zEx (some (.int (pleaves M x))) g (rv o f M)) := by
  obtain ⟨hx, h1, h15, hp, h13, h14⟩ := hV
  have hx1 := hx.1
  refine zM.start zmd_X12_leavesBy (Nat.le_of_ble_eq_true rfl) ⟨rfl, rfl, trivial⟩ [some (.ref o), some (.int x), none, none, none] rfl ?_
  refine z_aload0 dX12_leavesBy_0 ?_
  refine z_iload1 dX12_leavesBy_1 ?_
  refine z_callVi zmd_X12_kind rfl (by decide) zl_RX12_134 zin_X12_kind zsel_X12_kind (R_X12_kind (d := d - 1) hW _ hx) hW.o rfl rfl (by omega) rfl dX12_leavesBy_2 ?_
  refine z_istore2 dX12_leavesBy_5 ?_
  refine z_iload2 dX12_leavesBy_6 ?_
  refine z_iconst (v := 2) dX12_leavesBy_7 (by decide) ?_
  refine z_icmp_ge (tgt := 13) dX12_leavesBy_8 (by decide) (fun c8 => ?_) (fun c8 => ?_)
  · show zS _ _ _ _ _ _ _ 13 _ _ _ _ _
    have hq1 := h1 c8
    have hq2 := hq1.1
    refine z_iload2 dX12_leavesBy_13 ?_
    refine z_bipush (v := 16) dX12_leavesBy_14 (by decide) ?_
    refine z_icmp_ne (tgt := 31) dX12_leavesBy_16 (by decide) (fun c16 => ?_) (fun c16 => ?_)
    · show zS _ _ _ _ _ _ _ 31 _ _ _ _ _
      refine z_iload2 dX12_leavesBy_31 ?_
      refine z_bipush (v := 15) dX12_leavesBy_32 (by decide) ?_
      refine z_icmp_ne (tgt := 90) dX12_leavesBy_34 (by decide) (fun c34 => ?_) (fun c34 => ?_)
      · show zS _ _ _ _ _ _ _ 90 _ _ _ _ _
        refine z_iconst (v := 0) dX12_leavesBy_90 (by decide) ?_
        refine z_istore3 dX12_leavesBy_91 ?_
        refine z_iconst (v := 1) dX12_leavesBy_92 (by decide) ?_
        refine z_istore4 dX12_leavesBy_93 ?_
        have hp4 := pparts_n (pkind M x)
        have hp5 := hp4.1
        refine Rl_X12_leavesBy_p hW x (pkind M x) (tn (pparts (pkind M x))) (by omega) hp4.2 hx (hp c8 c34 c16) (by omega) _ _ (tn (pparts (pkind M x))) 1 0 (by omega) (by omega) rfl (fun x4 => ?_)
        rw [plv_1 c8 c16 c34]
        exact Rt_X12_leavesBy hW x _ x4 hx (by omega) h13 h14
      · show zS _ _ _ _ _ _ _ 37 _ _ _ _ _
        refine z_aload0 dX12_leavesBy_37 ?_
        refine z_iload1 dX12_leavesBy_38 ?_
        refine z_callVi zmd_X12_ofHandled rfl (by decide) zl_RX12_194 zin_X12_ofHandled zsel_X12_ofHandled (R_X12_ofHandled (d := d - 1) hW _ (h15 c34) hq1 (by omega)) hW.o rfl rfl (by omega) rfl dX12_leavesBy_39 ?_
        refine z_istore3 dX12_leavesBy_42 ?_
        refine z_aload0 dX12_leavesBy_43 ?_
        refine z_getRs fl_RX12_8 (by decide) hW.o (hW.r 0 rfl) dX12_leavesBy_44 ?_
        refine z_iconst (v := 5) dX12_leavesBy_47 (by decide) ?_
        refine z_iload1 dX12_leavesBy_48 ?_
        refine z_imul dX12_leavesBy_49 ?_
        refine z_iconst (v := 3) dX12_leavesBy_50 (by decide) ?_
        refine z_iadd dX12_leavesBy_51 ?_
        show zS _ _ _ _ _ _ _ 52 _ _ _ _ _
        refine zr_ld hW (i := 0) rfl (by decide) (by decide) (ixA (ixM (ixC 5) hx.2) (ixC 3)) (by omega) dX12_leavesBy_52 ?_
        refine z_istore4 dX12_leavesBy_53 ?_
        refine Rl_X12_leavesBy_c hW x (pkind M x) _ (pchA M 14 8 (M 1 (5 * tn x + 3)) (pofh M x)) 8 _ _ (h15 c34).2.1 rfl (fun x4 => ?_)
        show zS _ _ _ _ _ _ _ 88 _ _ _ _ _
        refine z_iload3 dX12_leavesBy_88 ?_
        refine z_iret dX12_leavesBy_89 rfl ?_
        refine ⟨congrArg (fun z => some (Value.int z)) ?_, rfl, rfl, rfl, rfl⟩
        exact ((if_neg c8).trans ((if_neg c16).trans (if_pos c34))).symm
    · show zS _ _ _ _ _ _ _ 19 _ _ _ _ _
      refine z_aload0 dX12_leavesBy_19 ?_
      refine z_getRs fl_RX12_53 (by decide) hW.o (hW.r 13 rfl) dX12_leavesBy_20 ?_
      refine z_aload0 dX12_leavesBy_23 ?_
      refine z_iload1 dX12_leavesBy_24 ?_
      refine z_iconst (v := 1) dX12_leavesBy_25 (by decide) ?_
      refine z_callVi zmd_X12_part rfl (by decide) zl_RX12_165 zin_X12_part zsel_X12_part (R_X12_part (d := d - 1) hW _ hx _ (⟨by decide, by decide⟩ : iv 4 (1 : Int32))) hW.o rfl rfl (by omega) rfl dX12_leavesBy_26 ?_
      refine zr_ld hW (i := 13) rfl (by decide) (by decide) hq1.2 (by omega) dX12_leavesBy_29 ?_
      refine z_iret dX12_leavesBy_30 rfl ?_
      refine ⟨congrArg (fun z => some (Value.int z)) ?_, rfl, rfl, rfl, rfl⟩
      exact ((if_neg c8).trans (if_pos c16)).symm
  · show zS _ _ _ _ _ _ _ 11 _ _ _ _ _
    refine z_iconst (v := 0) dX12_leavesBy_11 (by decide) ?_
    refine z_iret dX12_leavesBy_12 rfl ?_
    refine ⟨congrArg (fun z => some (Value.int z)) ?_, rfl, rfl, rfl, rfl⟩
    exact (if_pos c8).symm
theorem plt_1 {M : zI} {x : Int32} (h0 : ¬ pkind M x < 2) (h2 : ¬ pkind M x = 15) : plate M x = pltE M x (if pkind M x = 16 then M 15 (tn (ppart M x 1)) else pprA M 15 x (tn (pparts (pkind M x)) - 1) 2 (M 15 (tn (ppart M x 1)))) := (if_neg h0).trans (if_neg h2)
theorem pparts_1 (k : Int32) : 1 ≤ tn (pparts k) := by
  unfold pparts
  split
  · decide
  · split
    · decide
    · decide
set_option maxRecDepth 20000 in
theorem R_X12_lateBy {l : Launch} {d : Nat} {D : zD} {b0 : Nat} {g : zG} {f M : zI} {o : Nat} (hW : RW b0 g o) (x : Int32) (hV : pnV M x) (hd : 3 ≤ d) : zM l d D b0 mX12_lateBy [.ref o, .int x] g (rv o f M) (zEx (some (.int (plate M x))) g (rv o f M)) := by
  obtain ⟨hx, h1, h15, hp, h13, h14⟩ := hV
  have hx1 := hx.1
  refine zM.start zmd_X12_lateBy (Nat.le_of_ble_eq_true rfl) ⟨rfl, rfl, trivial⟩ [some (.ref o), some (.int x), none, none, none] rfl ?_
  refine z_aload0 dX12_lateBy_0 ?_
  refine z_iload1 dX12_lateBy_1 ?_
  refine z_callVi zmd_X12_kind rfl (by decide) zl_RX12_134 zin_X12_kind zsel_X12_kind (R_X12_kind (d := d - 1) hW _ hx) hW.o rfl rfl (by omega) rfl dX12_lateBy_2 ?_
  refine z_istore2 dX12_lateBy_5 ?_
  refine z_iload2 dX12_lateBy_6 ?_
  refine z_iconst (v := 2) dX12_lateBy_7 (by decide) ?_
  refine z_icmp_ge (tgt := 13) dX12_lateBy_8 (by decide) (fun c8 => ?_) (fun c8 => ?_)
  · show zS _ _ _ _ _ _ _ 13 _ _ _ _ _
    have hq1 := h1 c8
    have hq2 := hq1.1
    refine z_aload0 dX12_lateBy_13 ?_
    refine z_getRs fl_RX12_56 (by decide) hW.o (hW.r 14 rfl) dX12_lateBy_14 ?_
    refine z_aload0 dX12_lateBy_17 ?_
    refine z_iload1 dX12_lateBy_18 ?_
    refine z_iconst (v := 1) dX12_lateBy_19 (by decide) ?_
    refine z_callVi zmd_X12_part rfl (by decide) zl_RX12_165 zin_X12_part zsel_X12_part (R_X12_part (d := d - 1) hW _ hx _ (⟨by decide, by decide⟩ : iv 4 (1 : Int32))) hW.o rfl rfl (by omega) rfl dX12_lateBy_20 ?_
    refine zr_ld hW (i := 14) rfl (by decide) (by decide) hq1.2 (by omega) dX12_lateBy_23 ?_
    refine z_istore3 dX12_lateBy_24 ?_
    refine z_iload2 dX12_lateBy_25 ?_
    refine z_bipush (v := 15) dX12_lateBy_26 (by decide) ?_
    refine z_icmp_ne (tgt := 78) dX12_lateBy_28 (by decide) (fun c28 => ?_) (fun c28 => ?_)
    · show zS _ _ _ _ _ _ _ 78 _ _ _ _ _
      refine z_iconst (v := 2) dX12_lateBy_78 (by decide) ?_
      refine z_istore4 dX12_lateBy_79 ?_
      rw [plt_1 c8 c28]
      by_cases h16 : pkind M x = 16
      · rw [if_pos h16]
        refine z_iload2 dX12_lateBy_81 ?_
        refine z_bipush (v := 16) dX12_lateBy_82 (by decide) ?_
        refine z_icmp_eq (tgt := 117) dX12_lateBy_84 (by decide) (fun c => ?_) (fun c => absurd h16 c)
        exact Rt_X12_lateBy hW x _ _ hx (fun q => absurd (h16.symm.trans q) (by decide)) (by omega) h13 h14
      · rw [if_neg h16]
        have hp4 := pparts_n (pkind M x)
        have hp5 := hp4.1
        have hp6 := pparts_1 (pkind M x)
        refine Rl_X12_lateBy_p hW x (pkind M x) (tn (pparts (pkind M x))) (by omega) hp4.2 hx h16 (hp c8 c28 h16) (by omega) _ _ (tn (pparts (pkind M x)) - 1) 2 _ (by omega) (by omega) rfl (fun x4 => ?_)
        exact Rt_X12_lateBy hW x _ x4 hx (fun q => hp c8 c28 h16 2 (by omega) (by rw [q]; decide)) (by omega) h13 h14
    · show zS _ _ _ _ _ _ _ 31 _ _ _ _ _
      refine z_aload0 dX12_lateBy_31 ?_
      refine z_getRs fl_RX12_8 (by decide) hW.o (hW.r 0 rfl) dX12_lateBy_32 ?_
      refine z_iconst (v := 5) dX12_lateBy_35 (by decide) ?_
      refine z_iload1 dX12_lateBy_36 ?_
      refine z_imul dX12_lateBy_37 ?_
      refine z_iconst (v := 3) dX12_lateBy_38 (by decide) ?_
      refine z_iadd dX12_lateBy_39 ?_
      refine zr_ld hW (i := 0) rfl (by decide) (by decide) (ixA (ixM (ixC 5) hx.2) (ixC 3)) (by omega) dX12_lateBy_40 ?_
      refine z_istore4 dX12_lateBy_41 ?_
      refine Rl_X12_lateBy_c hW x (pkind M x) _ (pchA M 15 8 (M 1 (5 * tn x + 3)) (M 15 (tn (ppart M x 1)))) 8 _ _ (h15 c28).2.1 rfl (fun x4 => ?_)
      show zS _ _ _ _ _ _ _ 76 _ _ _ _ _
      refine z_iload3 dX12_lateBy_76 ?_
      refine z_iret dX12_lateBy_77 rfl ?_
      refine ⟨congrArg (fun z => some (Value.int z)) ?_, rfl, rfl, rfl, rfl⟩
      exact ((if_neg c8).trans (if_pos c28)).symm
  · show zS _ _ _ _ _ _ _ 11 _ _ _ _ _
    refine z_iconst (v := 0) dX12_lateBy_11 (by decide) ?_
    refine z_iret dX12_lateBy_12 rfl ?_
    refine ⟨congrArg (fun z => some (Value.int z)) ?_, rfl, rfl, rfl, rfl⟩
    exact (if_pos c8).symm
/-- rows 14 and 15 are written: what the tree says stays -/
theorem pnV.r {M : zI} {x : Int32} {r : Nat} (h : pnV M x) (h1 : r ≠ 1) (h2 : r ≠ 2) (a : Nat) (v : Int32) : pnV (zup M r a v) x := by
  have e1 : zup M r a v 1 = M 1 := zup_r (fun q => h1 q.symm)
  have e2 : zup M r a v 2 = M 2 := zup_r (fun q => h2 q.symm)
  have ek : pkind (zup M r a v) x = pkind M x := congrFun e1 _
  have ea : parg (zup M r a v) x = parg M x := congrFun e1 _
  have ep : ∀ k, ppart (zup M r a v) x k = ppart M x k := fun k => congrFun e1 _
  unfold pnV
  rw [ek, ea, e1, e2]
  simp only [ep]
  exact ⟨h.1, h.2.1, fun q => (h.2.2.1 q).r h1 _ _, h.2.2.2.1, h.2.2.2.2.1, h.2.2.2.2.2⟩
/-- the rows from r0 on, the last of j first -/
def pgrw (M : zI) (n : Nat) : zI := zup (zup M 14 n (pleaves M (nI n))) 15 n (plate M (nI n))
def pgrf (M : zI) (n : Nat) : Int32 := if pleaves M (nI n) = M 14 n ∧ plate M (nI n) = M 15 n then 0 else 1
def pgrA (r0 : Nat) : Nat → Int32 → zI → Int32 × zI
  | 0, b, M => (b, M)
  | j + 1, b, M => pgrA r0 j (b ||| pgrf M (r0 + j)) (pgrw M (r0 + j))
def pgrow (M : zI) (x : Int32) : Int32 × zI := if x = -9 then (0, M) else pgrA (tn x) (tn (M 11 (tn x)) - tn x) 0 M
def pgrV (M : zI) (x : Int32) : Prop := ¬ x = -9 → iv 65000 x ∧ iv 65001 (M 11 (tn x)) ∧ tn x ≤ tn (M 11 (tn x)) ∧ ∀ n, tn x ≤ n → n < tn (M 11 (tn x)) → pnV M (nI n)
set_option maxRecDepth 20000 in
theorem Rl_X12_growsIn {l : Launch} {d : Nat} {D : zD} {b0 : Nat} {g : zG} {f : zI} {o : Nat} (hW : RW b0 g o) (r0 : Nat) (hr : r0 < 65000) (hd : 4 ≤ d) (Q : Nat → Nat → zKT → Prop) (q0 : Int32 × zI) : ∀ (j : Nat) (b : Int32) (M : zI) {x4 x5 : Option Value}, r0 + j ≤ 65000 → (∀ n, r0 ≤ n → n < r0 + j → pnV M (nI n)) → pgrA r0 j b M = q0 → (∀ x3 x4 x5 : Option Value, zS l d D b0 mX12_growsIn 0 0 99 [some (.ref o), some (.int (nI r0)), some (.int q0.1), x3, x4, x5] [] g (rv o f q0.2) Q) → zS l d D b0 mX12_growsIn 0 0 22 [some (.ref o), some (.int (nI r0)), some (.int b), some (.int (nI (r0 + j) - 1)), x4, x5] [] g (rv o f M) Q := by
  intro j
  induction j with
  | zero =>
    intro b M x4 x5 hk hV he kk
    rw [← he] at kk
    refine z_iload3 dX12_growsIn_22 ?_
    refine z_iload1 dX12_growsIn_23 ?_
    refine z_icmp_lt (tgt := 99) dX12_growsIn_24 (by decide) (fun c24 => kk _ _ _) (fun c24 => ?_)
    cases r0 with
    | zero => exact absurd (by decide : (nI (0 + 0) - 1 : Int32) < nI 0) c24
    | succ r => exact absurd (by rw [show r + 1 + 0 = r + 1 from rfl, nI_pred]; exact nI_lt (by omega) (by omega)) c24
  | succ j ih =>
    intro b M x4 x5 hk hV he kk
    have hx9 : ¬ (nI r0 : Int32) = -9 := (iv_nI hr (by decide)).nn (by decide)
    rw [show (nI (r0 + (j + 1)) - 1 : Int32) = nI (r0 + j) from nI_pred (r0 + j)]
    refine z_iload3 dX12_growsIn_22 ?_
    refine z_iload1 dX12_growsIn_23 ?_
    refine z_icmp_lt (tgt := 99) dX12_growsIn_24 (by decide) (fun c24 => absurd c24 (nI_nlt (by omega) (by omega))) (fun c24 => ?_)
    show zS _ _ _ _ _ _ _ 27 _ _ _ _ _
    have hjn := hV (r0 + j) (by omega) (by omega)
    have hj1 := hjn.1.1
    have hj2 : r0 + j < 65000 := by omega
    refine z_iload1 dX12_growsIn_27 ?_
    refine z_bipush (v := (-9)) dX12_growsIn_28 (by decide) ?_
    refine z_icmp_eq (tgt := 99) dX12_growsIn_30 (by decide) (fun c30 => ?_) (fun c30 => ?_)
    · exact absurd c30 hx9
    · show zS _ _ _ _ _ _ _ 33 _ _ _ _ _
      refine z_aload0 dX12_growsIn_33 ?_
      refine z_iload3 dX12_growsIn_34 ?_
      refine z_callVi zmd_X12_leavesBy rfl (by decide) zl_RX12_200 zin_X12_leavesBy zsel_X12_leavesBy (R_X12_leavesBy (d := d - 1) hW _ hjn (by omega)) hW.o rfl rfl (by omega) rfl dX12_growsIn_35 ?_
      refine z_istore4 dX12_growsIn_38 ?_
      refine z_aload0 dX12_growsIn_40 ?_
      refine z_iload3 dX12_growsIn_41 ?_
      refine z_callVi zmd_X12_lateBy rfl (by decide) zl_RX12_203 zin_X12_lateBy zsel_X12_lateBy (R_X12_lateBy (d := d - 1) hW _ hjn (by omega)) hW.o rfl rfl (by omega) rfl dX12_growsIn_42 ?_
      refine z_istore5 dX12_growsIn_45 ?_
      have K76 : zS l d D b0 mX12_growsIn 0 0 76 [some (.ref o), some (.int (nI r0)), some (.int b), some (.int (nI (r0 + j))), some (.int (pleaves M (nI (r0 + j)))), some (.int (plate M (nI (r0 + j))))] [.int (b ||| pgrf M (r0 + j))] g (rv o f M) (Q) := by
        show zS _ _ _ _ _ _ _ 76 _ _ _ _ _
        refine z_istore2 dX12_growsIn_76 ?_
        refine z_aload0 dX12_growsIn_77 ?_
        refine z_getRs fl_RX12_53 (by decide) hW.o (hW.r 13 rfl) dX12_growsIn_78 ?_
        refine z_iload3 dX12_growsIn_81 ?_
        refine z_iload4 dX12_growsIn_82 ?_
        refine zr_st hW (i := 13) rfl (by decide) (by decide) (rfl : nI (r0 + j) = nI (r0 + j)) (by omega) dX12_growsIn_84 ?_
        refine z_aload0 dX12_growsIn_85 ?_
        refine z_getRs fl_RX12_56 (by decide) hW.o (hW.r 14 rfl) dX12_growsIn_86 ?_
        refine z_iload3 dX12_growsIn_89 ?_
        refine z_iload5 dX12_growsIn_90 ?_
        refine zr_st hW (i := 14) rfl (by decide) (by decide) (rfl : nI (r0 + j) = nI (r0 + j)) (by omega) dX12_growsIn_92 ?_
        show zS _ _ _ _ _ _ _ 93 _ _ _ _ _
        refine z_iinc3 (y := (-1)) dX12_growsIn_93 (by decide) ?_
        refine z_goto (tgt := 22) dX12_growsIn_96 (by decide) ?_
        rw [show (nI (r0 + j) + -1 : Int32) = nI (r0 + j) - 1 from by rw [Int32.sub_eq_add_neg]]
        exact ih _ _ (by omega) (fun n h1 h2 => ((hV n h1 (by omega)).r (by decide) (by decide) _ _).r (by decide) (by decide) _ _) he kk
      refine z_iload2 dX12_growsIn_47 ?_
      refine z_iload4 dX12_growsIn_48 ?_
      refine z_aload0 dX12_growsIn_50 ?_
      show zS _ _ _ _ _ _ _ 51 _ _ _ _ _
      refine z_getRs fl_RX12_53 (by decide) hW.o (hW.r 13 rfl) dX12_growsIn_51 ?_
      refine z_iload3 dX12_growsIn_54 ?_
      refine zr_ld hW (i := 13) rfl (by decide) (by decide) (rfl : nI (r0 + j) = nI (r0 + j)) (by omega) dX12_growsIn_55 ?_
      refine z_icmp_ne (tgt := 70) dX12_growsIn_56 (by decide) (fun c56 => ?_) (fun c56 => ?_)
      · show zS _ _ _ _ _ _ _ 70 _ _ _ _ _
        refine z_iconst (v := 1) dX12_growsIn_70 (by decide) ?_
        refine z_goto (tgt := 75) dX12_growsIn_71 (by decide) ?_
        show zS _ _ _ _ _ _ _ 75 _ _ _ _ _
        refine z_ior dX12_growsIn_75 ?_
        first
          | (rw [show pgrf M (r0 + j) = 1 from if_neg (fun q => c56 q.1)] at K76; exact K76)
          | (rw [show pgrf M (r0 + j) = 1 from if_neg (fun q => c67 q.2)] at K76; exact K76)
          | (rw [show pgrf M (r0 + j) = 0 from if_pos ⟨c56, c67⟩] at K76; exact K76)
      · show zS _ _ _ _ _ _ _ 59 _ _ _ _ _
        refine z_iload5 dX12_growsIn_59 ?_
        refine z_aload0 dX12_growsIn_61 ?_
        refine z_getRs fl_RX12_56 (by decide) hW.o (hW.r 14 rfl) dX12_growsIn_62 ?_
        refine z_iload3 dX12_growsIn_65 ?_
        refine zr_ld hW (i := 14) rfl (by decide) (by decide) (rfl : nI (r0 + j) = nI (r0 + j)) (by omega) dX12_growsIn_66 ?_
        refine z_icmp_eq (tgt := 74) dX12_growsIn_67 (by decide) (fun c67 => ?_) (fun c67 => ?_)
        · show zS _ _ _ _ _ _ _ 74 _ _ _ _ _
          refine z_iconst (v := 0) dX12_growsIn_74 (by decide) ?_
          refine z_ior dX12_growsIn_75 ?_
          first
            | (rw [show pgrf M (r0 + j) = 1 from if_neg (fun q => c56 q.1)] at K76; exact K76)
            | (rw [show pgrf M (r0 + j) = 1 from if_neg (fun q => c67 q.2)] at K76; exact K76)
            | (rw [show pgrf M (r0 + j) = 0 from if_pos ⟨c56, c67⟩] at K76; exact K76)
        · show zS _ _ _ _ _ _ _ 70 _ _ _ _ _
          refine z_iconst (v := 1) dX12_growsIn_70 (by decide) ?_
          refine z_goto (tgt := 75) dX12_growsIn_71 (by decide) ?_
          show zS _ _ _ _ _ _ _ 75 _ _ _ _ _
          refine z_ior dX12_growsIn_75 ?_
          first
            | (rw [show pgrf M (r0 + j) = 1 from if_neg (fun q => c56 q.1)] at K76; exact K76)
            | (rw [show pgrf M (r0 + j) = 1 from if_neg (fun q => c67 q.2)] at K76; exact K76)
            | (rw [show pgrf M (r0 + j) = 0 from if_pos ⟨c56, c67⟩] at K76; exact K76)
theorem por01 {a b : Int32} (ha : a = 0 ∨ a = 1) (hb : b = 0 ∨ b = 1) : (a ||| b) = 0 ∨ (a ||| b) = 1 := by
  rcases ha with rfl | rfl <;> rcases hb with rfl | rfl <;> decide
theorem pgrf_01 (M : zI) (n : Nat) : pgrf M n = 0 ∨ pgrf M n = 1 := by
  unfold pgrf
  split
  · exact Or.inl rfl
  · exact Or.inr rfl
theorem pgrA_01 (r0 : Nat) : ∀ (j : Nat) (b : Int32) (M : zI), b = 0 ∨ b = 1 → (pgrA r0 j b M).1 = 0 ∨ (pgrA r0 j b M).1 = 1 := by
  intro j
  induction j with
  | zero => intro b M h; exact h
  | succ j ih => intro b M h; exact ih _ _ (por01 h (pgrf_01 M _))
theorem pgrow_01 (M : zI) (x : Int32) : (pgrow M x).1 = 0 ∨ (pgrow M x).1 = 1 := zite01 _ _ _ (Or.inl rfl) (pgrA_01 _ _ _ _ (Or.inl rfl))
set_option maxRecDepth 20000 in
theorem R_X12_growsIn {l : Launch} {d : Nat} {D : zD} {b0 : Nat} {g : zG} {f M : zI} {o : Nat} (hW : RW b0 g o) (x : Int32) (hV : pgrV M x) (hd : 4 ≤ d) : zM l d D b0 mX12_growsIn [.ref o, .int x] g (rv o f M) (zEx (some (.int ((pgrow M x).1))) g (rv o f ((pgrow M x).2))) := by
  refine zM.start zmd_X12_growsIn (Nat.le_of_ble_eq_true rfl) ⟨rfl, rfl, trivial⟩ [some (.ref o), some (.int x), none, none, none, none] rfl ?_
  refine z_iconst (v := 0) dX12_growsIn_0 (by decide) ?_
  refine z_istore2 dX12_growsIn_1 ?_
  refine z_iload1 dX12_growsIn_2 ?_
  refine z_bipush (v := (-9)) dX12_growsIn_3 (by decide) ?_
  refine z_icmp_ne (tgt := 13) dX12_growsIn_5 (by decide) (fun c5 => ?_) (fun c5 => ?_)
  · show zS _ _ _ _ _ _ _ 13 _ _ _ _ _
    obtain ⟨hx, he, hle, hN⟩ := hV c5
    have hx1 := hx.1
    have he1 := he.1
    refine z_aload0 dX12_growsIn_13 ?_
    refine z_getRs fl_RX12_44 (by decide) hW.o (hW.r 10 rfl) dX12_growsIn_14 ?_
    refine z_iload1 dX12_growsIn_17 ?_
    refine zr_ld hW (i := 10) rfl (by decide) (by decide) hx.2 (by omega) dX12_growsIn_18 ?_
    refine z_iconst (v := 1) dX12_growsIn_19 (by decide) ?_
    refine z_isub dX12_growsIn_20 ?_
    refine z_istore3 dX12_growsIn_21 ?_
    rw [show pgrow M x = pgrA (tn x) (tn (M 11 (tn x)) - tn x) 0 M from if_neg c5]
    have h01 := pgrA_01 (tn x) (tn (M 11 (tn x)) - tn x) 0 M (Or.inl rfl)
    have eE : M 11 (tn x) = nI (tn x + (tn (M 11 (tn x)) - tn x)) := by rw [show tn x + (tn (M 11 (tn x)) - tn x) = tn (M 11 (tn x)) by omega]; exact he.2
    have K := fun kk => Rl_X12_growsIn (l := l) (d := d) (D := D) (f := f) (x4 := none) (x5 := none) hW (tn x) hx1 hd (zq D b0 (zEx (some (.int (pgrA (tn x) (tn (M 11 (tn x)) - tn x) 0 M).1)) g (rv o f (pgrA (tn x) (tn (M 11 (tn x)) - tn x) 0 M).2))) _ (tn (M 11 (tn x)) - tn x) 0 M (by omega) (fun n h1 h2 => hN n h1 (by omega)) rfl kk
    rw [← eE, ← hx.2] at K
    refine K (fun x3 x4 x5 => ?_)
    refine z_iload2 dX12_growsIn_99 ?_
    refine z_iret dX12_growsIn_100 rfl ?_ (zn01 h01)
    exact ⟨rfl, rfl, rfl, rfl, rfl⟩
  · show zS _ _ _ _ _ _ _ 8 _ _ _ _ _
    refine z_bipush (v := (-9)) dX12_growsIn_8 (by decide) ?_
    refine z_goto (tgt := 21) dX12_growsIn_10 (by decide) ?_
    show zS _ _ _ _ _ _ _ 21 _ _ _ _ _
    refine z_istore3 dX12_growsIn_21 ?_
    rw [show pgrow M x = (0, M) from if_pos c5]
    refine z_iload3 dX12_growsIn_22 ?_
    refine z_iload1 dX12_growsIn_23 ?_
    refine z_icmp_lt (tgt := 99) dX12_growsIn_24 (by decide) (fun c24 => ?_) (fun c24 => ?_)
    · refine z_iload2 dX12_growsIn_99 ?_
      refine z_iret dX12_growsIn_100 rfl ?_
      exact ⟨rfl, rfl, rfl, rfl, rfl⟩
    · refine z_iload1 dX12_growsIn_27 ?_
      refine z_bipush (v := (-9)) dX12_growsIn_28 (by decide) ?_
      refine z_icmp_eq (tgt := 99) dX12_growsIn_30 (by decide) (fun c => ?_) (fun c => absurd c5 c)
      refine z_iload2 dX12_growsIn_99 ?_
      refine z_iret dX12_growsIn_100 rfl ?_
      exact ⟨rfl, rfl, rfl, rfl, rfl⟩
