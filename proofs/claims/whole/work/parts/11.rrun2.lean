/-! The reference's run: its loops, and what calls them. -/
/-- the clauses from c on: the first for w -/
def pclA (M : zI) (w : Int32) : Nat → Int32 → Int32
  | 0, c => c
  | k + 1, c => if c = -9 then c else if M 1 (5 * tn c + 4) = w then c else pclA M w k (M 1 (5 * tn c + 3))
def pclV (M : zI) : Nat → Int32 → Prop
  | 0, _ => False
  | k + 1, c => c = -9 ∨ (iv 65000 c ∧ pclV M k (M 1 (5 * tn c + 3)))
def pclause (M : zI) (n w : Int32) : Int32 := pclA M w 8 (M 1 (5 * tn n + 3))
def pclOk (M : zI) (n : Int32) : Prop := pclV M 8 (M 1 (5 * tn n + 3))
def pvalA (M : zI) (c : Int32) : Nat → Int32 → Int32
  | 0, _ => 0
  | k + 1, e => if M 2 (30 + 3 * tn e) = c then M 2 (30 + 3 * tn e + 1) else pvalA M c k (M 2 (30 + 3 * tn e + 2))
def pvalV (M : zI) (c : Int32) : Nat → Int32 → Prop
  | 0, _ => False
  | k + 1, e => iv 1200 e ∧ (M 2 (30 + 3 * tn e) = c ∨ pvalV M c k (M 2 (30 + 3 * tn e + 2)))
def pval (M : zI) (c : Int32) : Int32 := pvalA M c 1201 (M 2 18)
/-- the frames from f on: the one that handles a, and how many stand above it -/
def pmk (M : zI) (a f m : Int32) : Int32 := if pof M f 0 = 8 ∧ parg M (pof M f 1) = a then m + 1 else m
def phas (M : zI) (a f : Int32) : Prop := pof M f 0 = 12 ∧ ¬ pclause M (pof M f 1) a = -9
def phA (M : zI) (a : Int32) : Nat → Int32 → Int32 → Int32 → Int32 × Int32
  | 0, _, _, s => (-9, s)
  | k + 1, m, f, s => if f = -9 then (-9, s) else
      if pof M f 0 = 12 ∧ ¬ pclause M (pof M f 1) a = -9 then (if pmk M a f m = 0 then (f, s) else phA M a k (pmk M a f m + -1) (pof M f 5) (s + 1)) else phA M a k (pmk M a f m) (pof M f 5) (s + 1)
def phV (M : zI) : Nat → Int32 → Prop
  | 0, _ => False
  | k + 1, f => f = -9 ∨ (iv 40000 f ∧ (pof M f 0 = 8 → iv 65000 (pof M f 1)) ∧ (pof M f 0 = 12 → iv 65000 (pof M f 1) ∧ pclOk M (pof M f 1)) ∧ phV M k (pof M f 5))
def phand (M : zI) (a : Int32) : Int32 × Int32 := phA M a 101 0 (M 2 7) 0
theorem zup_zup {α : Type} (f : Nat → Nat → α) (a k : Nat) (x y : α) : zup (zup f a k x) a k y = zup f a k y := by
  funext b j
  unfold zup
  by_cases h : b = a
  · subst h
    by_cases h2 : j = k
    · simp [h2]
    · simp [h2]
  · simp [h]
def pag : Nat → Nat → Int32 → zI → zI
  | 0, _, _, M => M
  | n + 1, k, x, M => pag n (k + 1) (pof M x 5) (zup M 16 k x)
def pagV (M : zI) : Nat → Int32 → Prop
  | 0, _ => True
  | n + 1, x => iv 40000 x ∧ pagV M n (pof M x 5)
def ppu1 (M : zI) (j : Nat) : zI := ppush M (pof M (M 16 j) 0) (pof M (M 16 j) 1) (pof M (M 16 j) 2) (pof M (M 16 j) 3) (pof M (M 16 j) 4)
def ppu : Nat → zI → zI
  | 0, M => M
  | j + 1, M => ppu j (ppu1 M j)
def ppuV : Nat → zI → Prop
  | 0, _ => True
  | j + 1, M => iv 40000 (M 16 j) ∧ iv 39999 (M 2 21) ∧ vd 40000 (M 2 7) ∧ ppuV j (ppu1 M j)
def prMany (M : zI) (r : Int32) : Int32 := M 2 (3630 + 3 * tn r + 1)
def prTop (M : zI) (r : Int32) : Int32 := M 2 (3630 + 3 * tn r)
def presume (M : zI) (r v : Int32) : zI :=
  let M2 := ppu (tn (prMany M r)) (pag (tn (prMany M r)) 0 (prTop M r) M)
  let M3 := zup M2 2 (3630 + 3 * tn r + 2) (M2 2 (3630 + 3 * tn r + 2) + 1)
  let M4 := zup M3 2 12 (M3 2 12 + 1)
  pbecome (zup M4 2 13 (M4 2 13 + (if puses M4 r = 2 then 1 else 0))) v
set_option maxRecDepth 20000 in
theorem Rl_X12_clause {l : Launch} {d : Nat} {D : zD} {b0 : Nat} {g : zG} {f M : zI} {o : Nat} (hW : RW b0 g o) (n w : Int32) : ∀ (k : Nat) (c : Int32), pclV M k c → zS l d D b0 mX12_clause 0 0 11 [some (.ref o), some (.int n), some (.int w), some (.int c)] [] g (rv o f M) (zq D b0 (zEx (some (.int (pclA M w k c))) g (rv o f M))) := by
  intro k
  induction k with
  | zero =>
    intro c h
    exact absurd h id
  | succ k ih =>
    intro c h
    show zS _ _ _ _ _ _ _ 11 _ _ _ _ _
    refine z_iload3 dX12_clause_11 ?_
    refine z_bipush (v := (-9)) dX12_clause_12 (by decide) ?_
    refine z_icmp_eq (tgt := 45) dX12_clause_14 (by decide) (fun c14 => ?_) (fun c14 => ?_)
    · show zS _ _ _ _ _ _ _ 45 _ _ _ _ _
      refine z_iload3 dX12_clause_45 ?_
      refine z_iret dX12_clause_46 rfl ?_
      refine ⟨congrArg (fun z => some (Value.int z)) ?_, rfl, rfl, rfl, rfl⟩
      first | exact ((if_neg c14).trans (if_pos (by assumption))).symm | exact (if_pos (by assumption)).symm
    · show zS _ _ _ _ _ _ _ 17 _ _ _ _ _
      have hv : iv 65000 c := (h.resolve_left c14).1
      have hv1 := hv.1
      refine z_aload0 dX12_clause_17 ?_
      refine z_getRs fl_RX12_8 (by decide) hW.o (hW.r 0 rfl) dX12_clause_18 ?_
      refine z_iconst (v := 5) dX12_clause_21 (by decide) ?_
      refine z_iload3 dX12_clause_22 ?_
      refine z_imul dX12_clause_23 ?_
      refine z_iconst (v := 4) dX12_clause_24 (by decide) ?_
      refine z_iadd dX12_clause_25 ?_
      refine zr_ld hW (i := 0) rfl (by decide) (by decide) (ixA (ixM (ixC 5) hv.2) (ixC 4)) (by omega) dX12_clause_26 ?_
      refine z_iload2 dX12_clause_27 ?_
      refine z_icmp_eq (tgt := 45) dX12_clause_28 (by decide) (fun c28 => ?_) (fun c28 => ?_)
      · show zS _ _ _ _ _ _ _ 45 _ _ _ _ _
        refine z_iload3 dX12_clause_45 ?_
        refine z_iret dX12_clause_46 rfl ?_
        refine ⟨congrArg (fun z => some (Value.int z)) ?_, rfl, rfl, rfl, rfl⟩
        first | exact ((if_neg c14).trans (if_pos (by assumption))).symm | exact (if_pos (by assumption)).symm
      · show zS _ _ _ _ _ _ _ 31 _ _ _ _ _
        refine z_aload0 dX12_clause_31 ?_
        refine z_getRs fl_RX12_8 (by decide) hW.o (hW.r 0 rfl) dX12_clause_32 ?_
        refine z_iconst (v := 5) dX12_clause_35 (by decide) ?_
        refine z_iload3 dX12_clause_36 ?_
        refine z_imul dX12_clause_37 ?_
        refine z_iconst (v := 3) dX12_clause_38 (by decide) ?_
        refine z_iadd dX12_clause_39 ?_
        refine zr_ld hW (i := 0) rfl (by decide) (by decide) (ixA (ixM (ixC 5) hv.2) (ixC 3)) (by omega) dX12_clause_40 ?_
        refine z_istore3 dX12_clause_41 ?_
        refine z_goto (tgt := 11) dX12_clause_42 (by decide) ?_
        show zS _ _ _ _ _ _ _ 11 _ _ _ _ _
        rw [show pclA M w (k + 1) c = _ from (if_neg c14).trans (if_neg c28)]
        exact ih _ (h.resolve_left c14).2
set_option maxRecDepth 20000 in
theorem R_X12_clause {l : Launch} {d : Nat} {D : zD} {b0 : Nat} {g : zG} {f M : zI} {o : Nat} (hW : RW b0 g o) (n w : Int32) (hn : iv 65000 n) (hc : pclOk M n) : zM l d D b0 mX12_clause [.ref o, .int n, .int w] g (rv o f M) (zEx (some (.int (pclause M n w))) g (rv o f M)) := by
  have hn1 := hn.1
  refine zM.start zmd_X12_clause (Nat.le_of_ble_eq_true rfl) ⟨rfl, rfl, rfl, trivial⟩ [some (.ref o), some (.int n), some (.int w), none] rfl ?_
  refine z_aload0 dX12_clause_0 ?_
  refine z_getRs fl_RX12_8 (by decide) hW.o (hW.r 0 rfl) dX12_clause_1 ?_
  refine z_iconst (v := 5) dX12_clause_4 (by decide) ?_
  refine z_iload1 dX12_clause_5 ?_
  refine z_imul dX12_clause_6 ?_
  refine z_iconst (v := 3) dX12_clause_7 (by decide) ?_
  refine z_iadd dX12_clause_8 ?_
  refine zr_ld hW (i := 0) rfl (by decide) (by decide) (ixA (ixM (ixC 5) hn.2) (ixC 3)) (by omega) dX12_clause_9 ?_
  refine z_istore3 dX12_clause_10 ?_
  exact Rl_X12_clause hW n w 8 _ hc
set_option maxRecDepth 20000 in
theorem Rl_X12_valueOf {l : Launch} {d : Nat} {D : zD} {b0 : Nat} {g : zG} {f M : zI} {o : Nat} (hW : RW b0 g o) (c : Int32) : ∀ (k : Nat) (e : Int32), pvalV M c k e → zS l d D b0 mX12_valueOf 0 0 8 [some (.ref o), some (.int c), some (.int e)] [] g (rv o f M) (zq D b0 (zEx (some (.int (pvalA M c k e))) g (rv o f M))) := by
  intro k
  induction k with
  | zero =>
    intro e h
    exact absurd h id
  | succ k ih =>
    intro e h
    have hv : iv 1200 e := h.1
    have hv1 := hv.1
    show zS _ _ _ _ _ _ _ 8 _ _ _ _ _
    refine z_aload0 dX12_valueOf_8 ?_
    refine z_getRs fl_RX12_14 (by decide) hW.o (hW.r 1 rfl) dX12_valueOf_9 ?_
    refine z_bipush (v := 30) dX12_valueOf_12 (by decide) ?_
    refine z_iconst (v := 3) dX12_valueOf_14 (by decide) ?_
    refine z_iload2 dX12_valueOf_15 ?_
    refine z_imul dX12_valueOf_16 ?_
    refine z_iadd dX12_valueOf_17 ?_
    refine zr_ld hW (i := 1) rfl (by decide) (by decide) (ixA (ixC 30) (ixM (ixC 3) hv.2)) (by omega) dX12_valueOf_18 ?_
    refine z_iload1 dX12_valueOf_19 ?_
    refine z_icmp_eq (tgt := 40) dX12_valueOf_20 (by decide) (fun c20 => ?_) (fun c20 => ?_)
    · show zS _ _ _ _ _ _ _ 40 _ _ _ _ _
      refine z_aload0 dX12_valueOf_40 ?_
      refine z_getRs fl_RX12_14 (by decide) hW.o (hW.r 1 rfl) dX12_valueOf_41 ?_
      refine z_bipush (v := 30) dX12_valueOf_44 (by decide) ?_
      refine z_iconst (v := 3) dX12_valueOf_46 (by decide) ?_
      refine z_iload2 dX12_valueOf_47 ?_
      refine z_imul dX12_valueOf_48 ?_
      refine z_iadd dX12_valueOf_49 ?_
      refine z_iconst (v := 1) dX12_valueOf_50 (by decide) ?_
      refine z_iadd dX12_valueOf_51 ?_
      refine zr_ld hW (i := 1) rfl (by decide) (by decide) (ixA (ixA (ixC 30) (ixM (ixC 3) hv.2)) (ixC 1)) (by omega) dX12_valueOf_52 ?_
      refine z_iret dX12_valueOf_53 rfl ?_
      exact ⟨congrArg (fun z => some (Value.int z)) (if_pos c20).symm, rfl, rfl, rfl, rfl⟩
    · show zS _ _ _ _ _ _ _ 23 _ _ _ _ _
      refine z_aload0 dX12_valueOf_23 ?_
      refine z_getRs fl_RX12_14 (by decide) hW.o (hW.r 1 rfl) dX12_valueOf_24 ?_
      refine z_bipush (v := 30) dX12_valueOf_27 (by decide) ?_
      refine z_iconst (v := 3) dX12_valueOf_29 (by decide) ?_
      refine z_iload2 dX12_valueOf_30 ?_
      refine z_imul dX12_valueOf_31 ?_
      refine z_iadd dX12_valueOf_32 ?_
      refine z_iconst (v := 2) dX12_valueOf_33 (by decide) ?_
      refine z_iadd dX12_valueOf_34 ?_
      refine zr_ld hW (i := 1) rfl (by decide) (by decide) (ixA (ixA (ixC 30) (ixM (ixC 3) hv.2)) (ixC 2)) (by omega) dX12_valueOf_35 ?_
      refine z_istore2 dX12_valueOf_36 ?_
      show zS _ _ _ _ _ _ _ 37 _ _ _ _ _
      refine z_goto (tgt := 8) dX12_valueOf_37 (by decide) ?_
      show zS _ _ _ _ _ _ _ 8 _ _ _ _ _
      rw [show pvalA M c (k + 1) e = _ from if_neg c20]
      exact ih _ (h.2.resolve_left c20)
set_option maxRecDepth 20000 in
theorem R_X12_valueOf {l : Launch} {d : Nat} {D : zD} {b0 : Nat} {g : zG} {f M : zI} {o : Nat} (hW : RW b0 g o) (c : Int32) (hc : pvalV M c 1201 (M 2 18)) : zM l d D b0 mX12_valueOf [.ref o, .int c] g (rv o f M) (zEx (some (.int (pval M c))) g (rv o f M)) := by
  refine zM.start zmd_X12_valueOf (Nat.le_of_ble_eq_true rfl) ⟨rfl, rfl, trivial⟩ [some (.ref o), some (.int c), none] rfl ?_
  refine z_aload0 dX12_valueOf_0 ?_
  refine z_getRs fl_RX12_14 (by decide) hW.o (hW.r 1 rfl) dX12_valueOf_1 ?_
  refine z_bipush (v := 18) dX12_valueOf_4 (by decide) ?_
  refine zr_ld hW (i := 1) rfl (by decide) (by decide) (ixC 18) (by decide) dX12_valueOf_6 ?_
  refine z_istore2 dX12_valueOf_7 ?_
  exact Rl_X12_valueOf hW c 1201 _ hc
set_option maxRecDepth 20000 in
theorem Rl_X12_handlerOf {l : Launch} {d : Nat} {D : zD} {b0 : Nat} {g : zG} {f M : zI} {o : Nat} (hW : RW b0 g o) (a : Int32) (hd : 1 ≤ d) : ∀ (k : Nat) (m x s : Int32) (y : Option Value), phV M k x → zS l d D b0 mX12_handlerOf 0 0 15 [some (.ref o), some (.int a), some (.int m), some (.int x), y] [] g (rv o f (zup M 0 28 s)) (zq D b0 (zEx (some (.int (phA M a k m x s).1)) g (rv o f (zup M 0 28 (phA M a k m x s).2)))) := by
  intro k
  induction k with
  | zero =>
    intro m x s y h
    exact absurd h id
  | succ k ih =>
    intro m x s y h
    show zS _ _ _ _ _ _ _ 15 _ _ _ _ _
    refine z_iload3 dX12_handlerOf_15 ?_
    refine z_bipush (v := (-9)) dX12_handlerOf_16 (by decide) ?_
    refine z_icmp_eq (tgt := 105) dX12_handlerOf_18 (by decide) (fun c18 => ?_) (fun c18 => ?_)
    · show zS _ _ _ _ _ _ _ 105 _ _ _ _ _
      refine z_bipush (v := (-9)) dX12_handlerOf_105 (by decide) ?_
      refine z_iret dX12_handlerOf_107 rfl ?_
      have e : phA M a (k + 1) m x s = (-9, s) := if_pos c18
      rw [e]
      exact ⟨rfl, rfl, rfl, rfl, rfl⟩
    · show zS _ _ _ _ _ _ _ 21 _ _ _ _ _
      have h2 := h.resolve_left c18
      have hv : iv 40000 x := h2.1
      refine z_aload0 dX12_handlerOf_21 ?_
      refine z_iload3 dX12_handlerOf_22 ?_
      refine z_iconst (v := 1) dX12_handlerOf_23 (by decide) ?_
      refine z_callVi zmd_X12_of rfl (by decide) zl_RX12_213 zin_X12_of zsel_X12_of (R_X12_of (d := d - 1) hW _ (by assumption) _ (⟨by decide, by decide⟩ : iv 7 (1 : Int32))) hW.o rfl rfl (by omega) rfl dX12_handlerOf_24 ?_
      refine z_istore4 dX12_handlerOf_27 ?_
      have K53 : zS l d D b0 mX12_handlerOf 0 0 53 [some (.ref o), some (.int a), some (.int (pmk M a x m)), some (.int x), some (.int (pof M x 1))] [] g (rv o f (zup M 0 28 s)) (zq D b0 (zEx (some (.int (phA M a (k + 1) m x s).1)) g (rv o f (zup M 0 28 (phA M a (k + 1) m x s).2)))) := by
        show zS _ _ _ _ _ _ _ 53 _ _ _ _ _
        refine z_aload0 dX12_handlerOf_53 ?_
        refine z_iload3 dX12_handlerOf_54 ?_
        refine z_iconst (v := 0) dX12_handlerOf_55 (by decide) ?_
        refine z_callVi zmd_X12_of rfl (by decide) zl_RX12_213 zin_X12_of zsel_X12_of (R_X12_of (d := d - 1) hW _ (by assumption) _ (⟨by decide, by decide⟩ : iv 7 (0 : Int32))) hW.o rfl rfl (by omega) rfl dX12_handlerOf_56 ?_
        refine z_bipush (v := 12) dX12_handlerOf_59 (by decide) ?_
        refine z_icmp_ne (tgt := 85) dX12_handlerOf_61 (by decide) (fun c61 => ?_) (fun c61 => ?_)
        · show zS _ _ _ _ _ _ _ 85 _ _ _ _ _
          refine z_aload0 dX12_handlerOf_85 ?_
          refine z_iload3 dX12_handlerOf_86 ?_
          refine z_iconst (v := 5) dX12_handlerOf_87 (by decide) ?_
          refine z_callVi zmd_X12_of rfl (by decide) zl_RX12_213 zin_X12_of zsel_X12_of (R_X12_of (d := d - 1) hW _ (by assumption) _ (⟨by decide, by decide⟩ : iv 7 (5 : Int32))) hW.o rfl rfl (by omega) rfl dX12_handlerOf_88 ?_
          refine z_istore3 dX12_handlerOf_91 ?_
          refine z_aload0 dX12_handlerOf_92 ?_
          refine z_dup dX12_handlerOf_93 ?_
          refine zr_getI fl_RX12_248 hW dX12_handlerOf_94 ?_
          refine z_iconst (v := 1) dX12_handlerOf_97 (by decide) ?_
          refine z_iadd dX12_handlerOf_98 ?_
          refine zr_putI fl_RX12_248 hW dX12_handlerOf_99 ?_
          show zS _ _ _ _ _ _ _ 102 _ _ _ _ _
          refine z_goto (tgt := 15) dX12_handlerOf_102 (by decide) ?_
          show zS _ _ _ _ _ _ _ 15 _ _ _ _ _
          first
            | (rw [show phA M a (k + 1) m x s = _ from (if_neg c18).trans ((if_pos ⟨c61, c71⟩).trans (if_neg c77))]; rw [zup_zup]; exact ih _ _ _ (some (.int (pof M x 1))) h2.2.2.2)
            | (rw [show phA M a (k + 1) m x s = _ from (if_neg c18).trans (if_neg (fun q => absurd c71 q.2))]; rw [zup_zup]; exact ih _ _ _ (some (.int (pof M x 1))) h2.2.2.2)
            | (rw [show phA M a (k + 1) m x s = _ from (if_neg c18).trans (if_neg (fun q => absurd q.1 c61))]; rw [zup_zup]; exact ih _ _ _ (some (.int (pof M x 1))) h2.2.2.2)
        · show zS _ _ _ _ _ _ _ 64 _ _ _ _ _
          refine z_aload0 dX12_handlerOf_64 ?_
          refine z_iload4 dX12_handlerOf_65 ?_
          refine z_iload1 dX12_handlerOf_67 ?_
          refine z_callVi zmd_X12_clause rfl (by decide) zl_RX12_131 zin_X12_clause zsel_X12_clause (R_X12_clause (d := d - 1) hW _ _ (h2.2.2.1 c61).1 (h2.2.2.1 c61).2) hW.o rfl rfl (by omega) rfl dX12_handlerOf_68 ?_
          refine z_bipush (v := (-9)) dX12_handlerOf_71 (by decide) ?_
          refine z_icmp_eq (tgt := 85) dX12_handlerOf_73 (by decide) (fun c71 => ?_) (fun c71 => ?_)
          · show zS _ _ _ _ _ _ _ 85 _ _ _ _ _
            refine z_aload0 dX12_handlerOf_85 ?_
            refine z_iload3 dX12_handlerOf_86 ?_
            refine z_iconst (v := 5) dX12_handlerOf_87 (by decide) ?_
            refine z_callVi zmd_X12_of rfl (by decide) zl_RX12_213 zin_X12_of zsel_X12_of (R_X12_of (d := d - 1) hW _ (by assumption) _ (⟨by decide, by decide⟩ : iv 7 (5 : Int32))) hW.o rfl rfl (by omega) rfl dX12_handlerOf_88 ?_
            refine z_istore3 dX12_handlerOf_91 ?_
            refine z_aload0 dX12_handlerOf_92 ?_
            refine z_dup dX12_handlerOf_93 ?_
            refine zr_getI fl_RX12_248 hW dX12_handlerOf_94 ?_
            refine z_iconst (v := 1) dX12_handlerOf_97 (by decide) ?_
            refine z_iadd dX12_handlerOf_98 ?_
            refine zr_putI fl_RX12_248 hW dX12_handlerOf_99 ?_
            show zS _ _ _ _ _ _ _ 102 _ _ _ _ _
            refine z_goto (tgt := 15) dX12_handlerOf_102 (by decide) ?_
            show zS _ _ _ _ _ _ _ 15 _ _ _ _ _
            first
              | (rw [show phA M a (k + 1) m x s = _ from (if_neg c18).trans ((if_pos ⟨c61, c71⟩).trans (if_neg c77))]; rw [zup_zup]; exact ih _ _ _ (some (.int (pof M x 1))) h2.2.2.2)
              | (rw [show phA M a (k + 1) m x s = _ from (if_neg c18).trans (if_neg (fun q => absurd c71 q.2))]; rw [zup_zup]; exact ih _ _ _ (some (.int (pof M x 1))) h2.2.2.2)
              | (rw [show phA M a (k + 1) m x s = _ from (if_neg c18).trans (if_neg (fun q => absurd q.1 c61))]; rw [zup_zup]; exact ih _ _ _ (some (.int (pof M x 1))) h2.2.2.2)
          · show zS _ _ _ _ _ _ _ 76 _ _ _ _ _
            refine z_iload2 dX12_handlerOf_76 ?_
            refine z_if_ne (tgt := 82) dX12_handlerOf_77 (by decide) (fun c77 => ?_) (fun c77 => ?_)
            · show zS _ _ _ _ _ _ _ 82 _ _ _ _ _
              refine z_iinc2 (y := (-1)) dX12_handlerOf_82 (by decide) ?_
              refine z_aload0 dX12_handlerOf_85 ?_
              refine z_iload3 dX12_handlerOf_86 ?_
              refine z_iconst (v := 5) dX12_handlerOf_87 (by decide) ?_
              refine z_callVi zmd_X12_of rfl (by decide) zl_RX12_213 zin_X12_of zsel_X12_of (R_X12_of (d := d - 1) hW _ (by assumption) _ (⟨by decide, by decide⟩ : iv 7 (5 : Int32))) hW.o rfl rfl (by omega) rfl dX12_handlerOf_88 ?_
              refine z_istore3 dX12_handlerOf_91 ?_
              refine z_aload0 dX12_handlerOf_92 ?_
              refine z_dup dX12_handlerOf_93 ?_
              refine zr_getI fl_RX12_248 hW dX12_handlerOf_94 ?_
              refine z_iconst (v := 1) dX12_handlerOf_97 (by decide) ?_
              refine z_iadd dX12_handlerOf_98 ?_
              show zS _ _ _ _ _ _ _ 99 _ _ _ _ _
              refine zr_putI fl_RX12_248 hW dX12_handlerOf_99 ?_
              refine z_goto (tgt := 15) dX12_handlerOf_102 (by decide) ?_
              show zS _ _ _ _ _ _ _ 15 _ _ _ _ _
              first
                | (rw [show phA M a (k + 1) m x s = _ from (if_neg c18).trans ((if_pos ⟨c61, c71⟩).trans (if_neg c77))]; rw [zup_zup]; exact ih _ _ _ (some (.int (pof M x 1))) h2.2.2.2)
                | (rw [show phA M a (k + 1) m x s = _ from (if_neg c18).trans (if_neg (fun q => absurd c71 q.2))]; rw [zup_zup]; exact ih _ _ _ (some (.int (pof M x 1))) h2.2.2.2)
                | (rw [show phA M a (k + 1) m x s = _ from (if_neg c18).trans (if_neg (fun q => absurd q.1 c61))]; rw [zup_zup]; exact ih _ _ _ (some (.int (pof M x 1))) h2.2.2.2)
            · show zS _ _ _ _ _ _ _ 80 _ _ _ _ _
              refine z_iload3 dX12_handlerOf_80 ?_
              refine z_iret dX12_handlerOf_81 rfl ?_
              have e : phA M a (k + 1) m x s = (x, s) := (if_neg c18).trans ((if_pos ⟨c61, c71⟩).trans (if_pos c77))
              rw [e]
              exact ⟨rfl, rfl, rfl, rfl, rfl⟩
      refine z_aload0 dX12_handlerOf_29 ?_
      refine z_iload3 dX12_handlerOf_30 ?_
      refine z_iconst (v := 0) dX12_handlerOf_31 (by decide) ?_
      refine z_callVi zmd_X12_of rfl (by decide) zl_RX12_213 zin_X12_of zsel_X12_of (R_X12_of (d := d - 1) hW _ (by assumption) _ (⟨by decide, by decide⟩ : iv 7 (0 : Int32))) hW.o rfl rfl (by omega) rfl dX12_handlerOf_32 ?_
      refine z_bipush (v := 8) dX12_handlerOf_35 (by decide) ?_
      refine z_icmp_ne (tgt := 53) dX12_handlerOf_37 (by decide) (fun c37 => ?_) (fun c37 => ?_)
      · show zS _ _ _ _ _ _ _ 53 _ _ _ _ _
        first | (rw [show pmk M a x m = m + 1 from if_pos ⟨c37, c47⟩] at K53; exact K53) | (rw [show pmk M a x m = m from if_neg (fun q => absurd q.2 c47)] at K53; exact K53) | (rw [show pmk M a x m = m from if_neg (fun q => absurd q.1 c37)] at K53; exact K53)
      · show zS _ _ _ _ _ _ _ 40 _ _ _ _ _
        refine z_aload0 dX12_handlerOf_40 ?_
        refine z_iload4 dX12_handlerOf_41 ?_
        refine z_callVi zmd_X12_argument rfl (by decide) zl_RX12_137 zin_X12_argument zsel_X12_argument (R_X12_argument (d := d - 1) hW _ (h2.2.1 c37)) hW.o rfl rfl (by omega) rfl dX12_handlerOf_43 ?_
        refine z_iload1 dX12_handlerOf_46 ?_
        refine z_icmp_ne (tgt := 53) dX12_handlerOf_47 (by decide) (fun c47 => ?_) (fun c47 => ?_)
        · show zS _ _ _ _ _ _ _ 53 _ _ _ _ _
          first | (rw [show pmk M a x m = m + 1 from if_pos ⟨c37, c47⟩] at K53; exact K53) | (rw [show pmk M a x m = m from if_neg (fun q => absurd q.2 c47)] at K53; exact K53) | (rw [show pmk M a x m = m from if_neg (fun q => absurd q.1 c37)] at K53; exact K53)
        · show zS _ _ _ _ _ _ _ 50 _ _ _ _ _
          refine z_iinc2 (y := 1) dX12_handlerOf_50 (by decide) ?_
          first | (rw [show pmk M a x m = m + 1 from if_pos ⟨c37, c47⟩] at K53; exact K53) | (rw [show pmk M a x m = m from if_neg (fun q => absurd q.2 c47)] at K53; exact K53) | (rw [show pmk M a x m = m from if_neg (fun q => absurd q.1 c37)] at K53; exact K53)
set_option maxRecDepth 20000 in
theorem R_X12_handlerOf {l : Launch} {d : Nat} {D : zD} {b0 : Nat} {g : zG} {f M : zI} {o : Nat} (hW : RW b0 g o) (a : Int32) (hh : phV M 101 (M 2 7)) (hd : 1 ≤ d) : zM l d D b0 mX12_handlerOf [.ref o, .int a] g (rv o f M) (zEx (some (.int ((phand M a).1))) g (rv o f (zup M 0 28 (phand M a).2))) := by
  refine zM.start zmd_X12_handlerOf (Nat.le_of_ble_eq_true rfl) ⟨rfl, rfl, trivial⟩ [some (.ref o), some (.int a), none, none, none] rfl ?_
  refine z_iconst (v := 0) dX12_handlerOf_0 (by decide) ?_
  refine z_istore2 dX12_handlerOf_1 ?_
  refine z_aload0 dX12_handlerOf_2 ?_
  refine z_iconst (v := 0) dX12_handlerOf_3 (by decide) ?_
  refine zr_putI fl_RX12_248 hW dX12_handlerOf_4 ?_
  refine z_aload0 dX12_handlerOf_7 ?_
  refine z_getRs fl_RX12_14 (by decide) hW.o (hW.r 1 rfl) dX12_handlerOf_8 ?_
  refine z_bipush (v := 7) dX12_handlerOf_11 (by decide) ?_
  refine zr_ld hW (i := 1) rfl (by decide) (by decide) (ixC 7) (by decide) dX12_handlerOf_13 ?_
  refine z_istore3 dX12_handlerOf_14 ?_
  exact Rl_X12_handlerOf hW a hd 101 _ _ _ _ hh
