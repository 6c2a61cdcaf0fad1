/-! The reference's run: its loops, and what calls them. -/
/-- the clauses from c on: the first for w -/
def pclA (M : zI) (w : Int32) : Nat → Int32 → Int32
  | 0, c => c
  | k + 1, c => if c = -9 then c else if M 1 (5 * tn c + 4) = w then c else pclA M w k (M 1 (5 * tn c + 3))
def pclV (M : zI) : Nat → Int32 → Prop
  | 0, _ => False
  | k + 1, c => c = -9 ∨ (iv 65000 c ∧ pclV M k (M 1 (5 * tn c + 3)))
def pclause (M : zI) (n w : Int32) : Int32 := pclA M w 8 (M 1 (5 * tn n + 3))
def pclOk (M : zI) (n : Int32) : Prop := pclV M 8 (M 1 (5 * tn n + 3))
def pvalA (M : zI) (c : Int32) : Nat → Int32 → Int32
  | 0, _ => 0
  | k + 1, e => if M 2 (30 + 3 * tn e) = c then M 2 (30 + 3 * tn e + 1) else pvalA M c k (M 2 (30 + 3 * tn e + 2))
def pvalV (M : zI) (c : Int32) : Nat → Int32 → Prop
  | 0, _ => False
  | k + 1, e => iv 1200 e ∧ (M 2 (30 + 3 * tn e) = c ∨ pvalV M c k (M 2 (30 + 3 * tn e + 2)))
def pval (M : zI) (c : Int32) : Int32 := pvalA M c 1201 (M 2 18)
/-- the frames from f on: the one that handles a, and how many stand above it -/
def pmk (M : zI) (a f m : Int32) : Int32 := if pof M f 0 = 8 ∧ parg M (pof M f 1) = a then m + 1 else m
def phas (M : zI) (a f : Int32) : Prop := pof M f 0 = 12 ∧ ¬ pclause M (pof M f 1) a = -9
def phA (M : zI) (a : Int32) : Nat → Int32 → Int32 → Int32 → Int32 × Int32
  | 0, _, _, s => (-9, s)
  | k + 1, m, f, s => if f = -9 then (-9, s) else
      if pof M f 0 = 12 ∧ ¬ pclause M (pof M f 1) a = -9 then (if pmk M a f m = 0 then (f, s) else phA M a k (pmk M a f m + -1) (pof M f 5) (s + 1)) else phA M a k (pmk M a f m) (pof M f 5) (s + 1)
def phV (M : zI) : Nat → Int32 → Prop
  | 0, _ => False
  | k + 1, f => f = -9 ∨ (iv 40000 f ∧ (pof M f 0 = 8 → iv 65000 (pof M f 1)) ∧ (pof M f 0 = 12 → iv 65000 (pof M f 1) ∧ pclOk M (pof M f 1)) ∧ phV M k (pof M f 5))
def phand (M : zI) (a : Int32) : Int32 × Int32 := phA M a 101 0 (M 2 7) 0
theorem zup_zup {α : Type} (f : Nat → Nat → α) (a k : Nat) (x y : α) : zup (zup f a k x) a k y = zup f a k y := by
  funext b j
  unfold zup
  by_cases h : b = a
  · subst h
    by_cases h2 : j = k
    · simp [h2]
    · simp [h2]
  · simp [h]
def pag : Nat → Nat → Int32 → zI → zI
  | 0, _, _, M => M
  | n + 1, k, x, M => pag n (k + 1) (pof M x 5) (zup M 16 k x)
def pagV (M : zI) : Nat → Int32 → Prop
  | 0, _ => True
  | n + 1, x => iv 40000 x ∧ pagV M n (pof M x 5)
def ppu1 (M : zI) (j : Nat) : zI := ppush M (pof M (M 16 j) 0) (pof M (M 16 j) 1) (pof M (M 16 j) 2) (pof M (M 16 j) 3) (pof M (M 16 j) 4)
def ppu : Nat → zI → zI
  | 0, M => M
  | j + 1, M => ppu j (ppu1 M j)
def ppuV : Nat → zI → Prop
  | 0, _ => True
  | j + 1, M => iv 40000 (M 16 j) ∧ iv 39999 (M 2 21) ∧ vd 40000 (M 2 7) ∧ ppuV j (ppu1 M j)
def prMany (M : zI) (r : Int32) : Int32 := M 2 (3630 + 3 * tn r + 1)
def prTop (M : zI) (r : Int32) : Int32 := M 2 (3630 + 3 * tn r)
def prs4 (N : zI) (r : Int32) : zI :=
  let M3 := zup N 2 (3630 + 3 * tn r + 2) (N 2 (3630 + 3 * tn r + 2) + 1)
  zup M3 2 12 (M3 2 12 + 1)
def prsE (N : zI) (r v z : Int32) : zI := pbecome (zup (prs4 N r) 2 13 (prs4 N r 2 13 + z)) v
def prs0 (M : zI) (r : Int32) : zI := ppu (tn (prMany M r)) (pag (tn (prMany M r)) 0 (prTop M r) M)
def presume (M : zI) (r v : Int32) : zI := prsE (prs0 M r) r v (if puses (prs4 (prs0 M r) r) r = 2 then 1 else 0)
set_option maxRecDepth 20000 in
theorem Rl_X12_clause {l : Launch} {d : Nat} {D : zD} {b0 : Nat} {g : zG} {f M : zI} {o : Nat} (hW : RW b0 g o) (n w : Int32) : ∀ (k : Nat) (c : Int32), pclV M k c → zS l d D b0 mX12_clause 0 0 11 [some (.ref o), some (.int n), some (.int w), some (.int c)] [] g (rv o f M) (zq D b0 (zEx (some (.int (pclA M w k c))) g (rv o f M))) := by
  intro k
  induction k with
  | zero =>
    intro c h
    exact absurd h id
  | succ k ih =>
    intro c h
    show zS _ _ _ _ _ _ _ 11 _ _ _ _ _
    refine z_iload3 dX12_clause_11 ?_
    refine z_bipush (v := (-9)) dX12_clause_12 (by decide) ?_
    refine z_icmp_eq (tgt := 45) dX12_clause_14 (by decide) (fun c14 => ?_) (fun c14 => ?_)
    · show zS _ _ _ _ _ _ _ 45 _ _ _ _ _
      refine z_iload3 dX12_clause_45 ?_
      refine z_iret dX12_clause_46 rfl ?_
      refine ⟨congrArg (fun z => some (Value.int z)) ?_, rfl, rfl, rfl, rfl⟩
      first | exact ((if_neg c14).trans (if_pos (by assumption))).symm | exact (if_pos (by assumption)).symm
    · show zS _ _ _ _ _ _ _ 17 _ _ _ _ _
      have hv : iv 65000 c := (h.resolve_left c14).1
      have hv1 := hv.1
      refine z_aload0 dX12_clause_17 ?_
      refine z_getRs fl_RX12_8 (by decide) hW.o (hW.r 0 rfl) dX12_clause_18 ?_
      refine z_iconst (v := 5) dX12_clause_21 (by decide) ?_
      refine z_iload3 dX12_clause_22 ?_
      refine z_imul dX12_clause_23 ?_
      refine z_iconst (v := 4) dX12_clause_24 (by decide) ?_
      refine z_iadd dX12_clause_25 ?_
      refine zr_ld hW (i := 0) rfl (by decide) (by decide) (ixA (ixM (ixC 5) hv.2) (ixC 4)) (by omega) dX12_clause_26 ?_
      refine z_iload2 dX12_clause_27 ?_
      refine z_icmp_eq (tgt := 45) dX12_clause_28 (by decide) (fun c28 => ?_) (fun c28 => ?_)
      · show zS _ _ _ _ _ _ _ 45 _ _ _ _ _
        refine z_iload3 dX12_clause_45 ?_
        refine z_iret dX12_clause_46 rfl ?_
        refine ⟨congrArg (fun z => some (Value.int z)) ?_, rfl, rfl, rfl, rfl⟩
        first | exact ((if_neg c14).trans (if_pos (by assumption))).symm | exact (if_pos (by assumption)).symm
      · show zS _ _ _ _ _ _ _ 31 _ _ _ _ _
        refine z_aload0 dX12_clause_31 ?_
        refine z_getRs fl_RX12_8 (by decide) hW.o (hW.r 0 rfl) dX12_clause_32 ?_
        refine z_iconst (v := 5) dX12_clause_35 (by decide) ?_
        refine z_iload3 dX12_clause_36 ?_
        refine z_imul dX12_clause_37 ?_
        refine z_iconst (v := 3) dX12_clause_38 (by decide) ?_
        refine z_iadd dX12_clause_39 ?_
        refine zr_ld hW (i := 0) rfl (by decide) (by decide) (ixA (ixM (ixC 5) hv.2) (ixC 3)) (by omega) dX12_clause_40 ?_
        refine z_istore3 dX12_clause_41 ?_
        refine z_goto (tgt := 11) dX12_clause_42 (by decide) ?_
        show zS _ _ _ _ _ _ _ 11 _ _ _ _ _
        rw [show pclA M w (k + 1) c = _ from (if_neg c14).trans (if_neg c28)]
        exact ih _ (h.resolve_left c14).2
set_option maxRecDepth 20000 in
theorem R_X12_clause {l : Launch} {d : Nat} {D : zD} {b0 : Nat} {g : zG} {f M : zI} {o : Nat} (hW : RW b0 g o) (n w : Int32) (hn : iv 65000 n) (hc : pclOk M n) : zM l d D b0 mX12_clause [.ref o, .int n, .int w] g (rv o f M) (zEx (some (.int (pclause M n w))) g (rv o f M)) := by
  have hn1 := hn.1
  refine zM.start zmd_X12_clause (Nat.le_of_ble_eq_true rfl) ⟨rfl, rfl, rfl, trivial⟩ [some (.ref o), some (.int n), some (.int w), none] rfl ?_
  refine z_aload0 dX12_clause_0 ?_
  refine z_getRs fl_RX12_8 (by decide) hW.o (hW.r 0 rfl) dX12_clause_1 ?_
  refine z_iconst (v := 5) dX12_clause_4 (by decide) ?_
  refine z_iload1 dX12_clause_5 ?_
  refine z_imul dX12_clause_6 ?_
  refine z_iconst (v := 3) dX12_clause_7 (by decide) ?_
  refine z_iadd dX12_clause_8 ?_
  refine zr_ld hW (i := 0) rfl (by decide) (by decide) (ixA (ixM (ixC 5) hn.2) (ixC 3)) (by omega) dX12_clause_9 ?_
  refine z_istore3 dX12_clause_10 ?_
  exact Rl_X12_clause hW n w 8 _ hc
set_option maxRecDepth 20000 in
theorem Rl_X12_valueOf {l : Launch} {d : Nat} {D : zD} {b0 : Nat} {g : zG} {f M : zI} {o : Nat} (hW : RW b0 g o) (c : Int32) : ∀ (k : Nat) (e : Int32), pvalV M c k e → zS l d D b0 mX12_valueOf 0 0 8 [some (.ref o), some (.int c), some (.int e)] [] g (rv o f M) (zq D b0 (zEx (some (.int (pvalA M c k e))) g (rv o f M))) := by
  intro k
  induction k with
  | zero =>
    intro e h
    exact absurd h id
  | succ k ih =>
    intro e h
    have hv : iv 1200 e := h.1
    have hv1 := hv.1
    show zS _ _ _ _ _ _ _ 8 _ _ _ _ _
    refine z_aload0 dX12_valueOf_8 ?_
    refine z_getRs fl_RX12_14 (by decide) hW.o (hW.r 1 rfl) dX12_valueOf_9 ?_
    refine z_bipush (v := 30) dX12_valueOf_12 (by decide) ?_
    refine z_iconst (v := 3) dX12_valueOf_14 (by decide) ?_
    refine z_iload2 dX12_valueOf_15 ?_
    refine z_imul dX12_valueOf_16 ?_
    refine z_iadd dX12_valueOf_17 ?_
    refine zr_ld hW (i := 1) rfl (by decide) (by decide) (ixA (ixC 30) (ixM (ixC 3) hv.2)) (by omega) dX12_valueOf_18 ?_
    refine z_iload1 dX12_valueOf_19 ?_
    refine z_icmp_eq (tgt := 40) dX12_valueOf_20 (by decide) (fun c20 => ?_) (fun c20 => ?_)
    · show zS _ _ _ _ _ _ _ 40 _ _ _ _ _
      refine z_aload0 dX12_valueOf_40 ?_
      refine z_getRs fl_RX12_14 (by decide) hW.o (hW.r 1 rfl) dX12_valueOf_41 ?_
      refine z_bipush (v := 30) dX12_valueOf_44 (by decide) ?_
      refine z_iconst (v := 3) dX12_valueOf_46 (by decide) ?_
      refine z_iload2 dX12_valueOf_47 ?_
      refine z_imul dX12_valueOf_48 ?_
      refine z_iadd dX12_valueOf_49 ?_
      refine z_iconst (v := 1) dX12_valueOf_50 (by decide) ?_
      refine z_iadd dX12_valueOf_51 ?_
      refine zr_ld hW (i := 1) rfl (by decide) (by decide) (ixA (ixA (ixC 30) (ixM (ixC 3) hv.2)) (ixC 1)) (by omega) dX12_valueOf_52 ?_
      refine z_iret dX12_valueOf_53 rfl ?_
      exact ⟨congrArg (fun z => some (Value.int z)) (if_pos c20).symm, rfl, rfl, rfl, rfl⟩
    · show zS _ _ _ _ _ _ _ 23 _ _ _ _ _
      refine z_aload0 dX12_valueOf_23 ?_
      refine z_getRs fl_RX12_14 (by decide) hW.o (hW.r 1 rfl) dX12_valueOf_24 ?_
      refine z_bipush (v := 30) dX12_valueOf_27 (by decide) ?_
      refine z_iconst (v := 3) dX12_valueOf_29 (by decide) ?_
      refine z_iload2 dX12_valueOf_30 ?_
      refine z_imul dX12_valueOf_31 ?_
      refine z_iadd dX12_valueOf_32 ?_
      refine z_iconst (v := 2) dX12_valueOf_33 (by decide) ?_
      refine z_iadd dX12_valueOf_34 ?_
      refine zr_ld hW (i := 1) rfl (by decide) (by decide) (ixA (ixA (ixC 30) (ixM (ixC 3) hv.2)) (ixC 2)) (by omega) dX12_valueOf_35 ?_
      refine z_istore2 dX12_valueOf_36 ?_
      show zS _ _ _ _ _ _ _ 37 _ _ _ _ _
      refine z_goto (tgt := 8) dX12_valueOf_37 (by decide) ?_
      show zS _ _ _ _ _ _ _ 8 _ _ _ _ _
      rw [show pvalA M c (k + 1) e = _ from if_neg c20]
      exact ih _ (h.2.resolve_left c20)
set_option maxRecDepth 20000 in
theorem R_X12_valueOf {l : Launch} {d : Nat} {D : zD} {b0 : Nat} {g : zG} {f M : zI} {o : Nat} (hW : RW b0 g o) (c : Int32) (hc : pvalV M c 1201 (M 2 18)) : zM l d D b0 mX12_valueOf [.ref o, .int c] g (rv o f M) (zEx (some (.int (pval M c))) g (rv o f M)) := by
  refine zM.start zmd_X12_valueOf (Nat.le_of_ble_eq_true rfl) ⟨rfl, rfl, trivial⟩ [some (.ref o), some (.int c), none] rfl ?_
  refine z_aload0 dX12_valueOf_0 ?_
  refine z_getRs fl_RX12_14 (by decide) hW.o (hW.r 1 rfl) dX12_valueOf_1 ?_
  refine z_bipush (v := 18) dX12_valueOf_4 (by decide) ?_
  refine zr_ld hW (i := 1) rfl (by decide) (by decide) (ixC 18) (by decide) dX12_valueOf_6 ?_
  refine z_istore2 dX12_valueOf_7 ?_
  exact Rl_X12_valueOf hW c 1201 _ hc
set_option maxRecDepth 20000 in
theorem Rl_X12_handlerOf {l : Launch} {d : Nat} {D : zD} {b0 : Nat} {g : zG} {f M : zI} {o : Nat} (hW : RW b0 g o) (a : Int32) (hd : 1 ≤ d) : ∀ (k : Nat) (m x s : Int32) (y : Option Value), phV M k x → zS l d D b0 mX12_handlerOf 0 0 15 [some (.ref o), some (.int a), some (.int m), some (.int x), y] [] g (rv o f (zup M 0 28 s)) (zq D b0 (zEx (some (.int (phA M a k m x s).1)) g (rv o f (zup M 0 28 (phA M a k m x s).2)))) := by
  intro k
  induction k with
  | zero =>
    intro m x s y h
    exact absurd h id
  | succ k ih =>
    intro m x s y h
    show zS _ _ _ _ _ _ _ 15 _ _ _ _ _
    refine z_iload3 dX12_handlerOf_15 ?_
    refine z_bipush (v := (-9)) dX12_handlerOf_16 (by decide) ?_
    refine z_icmp_eq (tgt := 105) dX12_handlerOf_18 (by decide) (fun c18 => ?_) (fun c18 => ?_)
    · show zS _ _ _ _ _ _ _ 105 _ _ _ _ _
      refine z_bipush (v := (-9)) dX12_handlerOf_105 (by decide) ?_
      refine z_iret dX12_handlerOf_107 rfl ?_
      have e : phA M a (k + 1) m x s = (-9, s) := if_pos c18
      rw [e]
      exact ⟨rfl, rfl, rfl, rfl, rfl⟩
    · show zS _ _ _ _ _ _ _ 21 _ _ _ _ _
      have h2 := h.resolve_left c18
      have hv : iv 40000 x := h2.1
      refine z_aload0 dX12_handlerOf_21 ?_
      refine z_iload3 dX12_handlerOf_22 ?_
      refine z_iconst (v := 1) dX12_handlerOf_23 (by decide) ?_
      refine z_callVi zmd_X12_of rfl (by decide) zl_RX12_213 zin_X12_of zsel_X12_of (R_X12_of (d := d - 1) hW _ (by assumption) _ (⟨by decide, by decide⟩ : iv 7 (1 : Int32))) hW.o rfl rfl (by omega) rfl dX12_handlerOf_24 ?_
      refine z_istore4 dX12_handlerOf_27 ?_
      have K53 : zS l d D b0 mX12_handlerOf 0 0 53 [some (.ref o), some (.int a), some (.int (pmk M a x m)), some (.int x), some (.int (pof M x 1))] [] g (rv o f (zup M 0 28 s)) (zq D b0 (zEx (some (.int (phA M a (k + 1) m x s).1)) g (rv o f (zup M 0 28 (phA M a (k + 1) m x s).2)))) := by
        show zS _ _ _ _ _ _ _ 53 _ _ _ _ _
        refine z_aload0 dX12_handlerOf_53 ?_
        refine z_iload3 dX12_handlerOf_54 ?_
        refine z_iconst (v := 0) dX12_handlerOf_55 (by decide) ?_
        refine z_callVi zmd_X12_of rfl (by decide) zl_RX12_213 zin_X12_of zsel_X12_of (R_X12_of (d := d - 1) hW _ (by assumption) _ (⟨by decide, by decide⟩ : iv 7 (0 : Int32))) hW.o rfl rfl (by omega) rfl dX12_handlerOf_56 ?_
        refine z_bipush (v := 12) dX12_handlerOf_59 (by decide) ?_
        refine z_icmp_ne (tgt := 85) dX12_handlerOf_61 (by decide) (fun c61 => ?_) (fun c61 => ?_)
        · show zS _ _ _ _ _ _ _ 85 _ _ _ _ _
          refine z_aload0 dX12_handlerOf_85 ?_
          refine z_iload3 dX12_handlerOf_86 ?_
          refine z_iconst (v := 5) dX12_handlerOf_87 (by decide) ?_
          refine z_callVi zmd_X12_of rfl (by decide) zl_RX12_213 zin_X12_of zsel_X12_of (R_X12_of (d := d - 1) hW _ (by assumption) _ (⟨by decide, by decide⟩ : iv 7 (5 : Int32))) hW.o rfl rfl (by omega) rfl dX12_handlerOf_88 ?_
          refine z_istore3 dX12_handlerOf_91 ?_
          refine z_aload0 dX12_handlerOf_92 ?_
          refine z_dup dX12_handlerOf_93 ?_
          refine zr_getI fl_RX12_248 hW dX12_handlerOf_94 ?_
          refine z_iconst (v := 1) dX12_handlerOf_97 (by decide) ?_
          refine z_iadd dX12_handlerOf_98 ?_
          refine zr_putI fl_RX12_248 hW dX12_handlerOf_99 ?_
          show zS _ _ _ _ _ _ _ 102 _ _ _ _ _
          refine z_goto (tgt := 15) dX12_handlerOf_102 (by decide) ?_
          show zS _ _ _ _ _ _ _ 15 _ _ _ _ _
          first
            | (rw [show phA M a (k + 1) m x s = _ from (if_neg c18).trans ((if_pos ⟨c61, c71⟩).trans (if_neg c77))]; rw [zup_zup]; exact ih _ _ _ (some (.int (pof M x 1))) h2.2.2.2)
            | (rw [show phA M a (k + 1) m x s = _ from (if_neg c18).trans (if_neg (fun q => absurd c71 q.2))]; rw [zup_zup]; exact ih _ _ _ (some (.int (pof M x 1))) h2.2.2.2)
            | (rw [show phA M a (k + 1) m x s = _ from (if_neg c18).trans (if_neg (fun q => absurd q.1 c61))]; rw [zup_zup]; exact ih _ _ _ (some (.int (pof M x 1))) h2.2.2.2)
        · show zS _ _ _ _ _ _ _ 64 _ _ _ _ _
          refine z_aload0 dX12_handlerOf_64 ?_
          refine z_iload4 dX12_handlerOf_65 ?_
          refine z_iload1 dX12_handlerOf_67 ?_
          refine z_callVi zmd_X12_clause rfl (by decide) zl_RX12_131 zin_X12_clause zsel_X12_clause (R_X12_clause (d := d - 1) hW _ _ (h2.2.2.1 c61).1 (h2.2.2.1 c61).2) hW.o rfl rfl (by omega) rfl dX12_handlerOf_68 ?_
          refine z_bipush (v := (-9)) dX12_handlerOf_71 (by decide) ?_
          refine z_icmp_eq (tgt := 85) dX12_handlerOf_73 (by decide) (fun c71 => ?_) (fun c71 => ?_)
          · show zS _ _ _ _ _ _ _ 85 _ _ _ _ _
            refine z_aload0 dX12_handlerOf_85 ?_
            refine z_iload3 dX12_handlerOf_86 ?_
            refine z_iconst (v := 5) dX12_handlerOf_87 (by decide) ?_
            refine z_callVi zmd_X12_of rfl (by decide) zl_RX12_213 zin_X12_of zsel_X12_of (R_X12_of (d := d - 1) hW _ (by assumption) _ (⟨by decide, by decide⟩ : iv 7 (5 : Int32))) hW.o rfl rfl (by omega) rfl dX12_handlerOf_88 ?_
            refine z_istore3 dX12_handlerOf_91 ?_
            refine z_aload0 dX12_handlerOf_92 ?_
            refine z_dup dX12_handlerOf_93 ?_
            refine zr_getI fl_RX12_248 hW dX12_handlerOf_94 ?_
            refine z_iconst (v := 1) dX12_handlerOf_97 (by decide) ?_
            refine z_iadd dX12_handlerOf_98 ?_
            refine zr_putI fl_RX12_248 hW dX12_handlerOf_99 ?_
            show zS _ _ _ _ _ _ _ 102 _ _ _ _ _
            refine z_goto (tgt := 15) dX12_handlerOf_102 (by decide) ?_
            show zS _ _ _ _ _ _ _ 15 _ _ _ _ _
            first
              | (rw [show phA M a (k + 1) m x s = _ from (if_neg c18).trans ((if_pos ⟨c61, c71⟩).trans (if_neg c77))]; rw [zup_zup]; exact ih _ _ _ (some (.int (pof M x 1))) h2.2.2.2)
              | (rw [show phA M a (k + 1) m x s = _ from (if_neg c18).trans (if_neg (fun q => absurd c71 q.2))]; rw [zup_zup]; exact ih _ _ _ (some (.int (pof M x 1))) h2.2.2.2)
              | (rw [show phA M a (k + 1) m x s = _ from (if_neg c18).trans (if_neg (fun q => absurd q.1 c61))]; rw [zup_zup]; exact ih _ _ _ (some (.int (pof M x 1))) h2.2.2.2)
          · show zS _ _ _ _ _ _ _ 76 _ _ _ _ _
            refine z_iload2 dX12_handlerOf_76 ?_
            refine z_if_ne (tgt := 82) dX12_handlerOf_77 (by decide) (fun c77 => ?_) (fun c77 => ?_)
            · show zS _ _ _ _ _ _ _ 82 _ _ _ _ _
              refine z_iinc2 (y := (-1)) dX12_handlerOf_82 (by decide) ?_
              refine z_aload0 dX12_handlerOf_85 ?_
              refine z_iload3 dX12_handlerOf_86 ?_
              refine z_iconst (v := 5) dX12_handlerOf_87 (by decide) ?_
              refine z_callVi zmd_X12_of rfl (by decide) zl_RX12_213 zin_X12_of zsel_X12_of (R_X12_of (d := d - 1) hW _ (by assumption) _ (⟨by decide, by decide⟩ : iv 7 (5 : Int32))) hW.o rfl rfl (by omega) rfl dX12_handlerOf_88 ?_
              refine z_istore3 dX12_handlerOf_91 ?_
              refine z_aload0 dX12_handlerOf_92 ?_
              refine z_dup dX12_handlerOf_93 ?_
              refine zr_getI fl_RX12_248 hW dX12_handlerOf_94 ?_
              refine z_iconst (v := 1) dX12_handlerOf_97 (by decide) ?_
              refine z_iadd dX12_handlerOf_98 ?_
              show zS _ _ _ _ _ _ _ 99 _ _ _ _ _
              refine zr_putI fl_RX12_248 hW dX12_handlerOf_99 ?_
              refine z_goto (tgt := 15) dX12_handlerOf_102 (by decide) ?_
              show zS _ _ _ _ _ _ _ 15 _ _ _ _ _
              first
                | (rw [show phA M a (k + 1) m x s = _ from (if_neg c18).trans ((if_pos ⟨c61, c71⟩).trans (if_neg c77))]; rw [zup_zup]; exact ih _ _ _ (some (.int (pof M x 1))) h2.2.2.2)
                | (rw [show phA M a (k + 1) m x s = _ from (if_neg c18).trans (if_neg (fun q => absurd c71 q.2))]; rw [zup_zup]; exact ih _ _ _ (some (.int (pof M x 1))) h2.2.2.2)
                | (rw [show phA M a (k + 1) m x s = _ from (if_neg c18).trans (if_neg (fun q => absurd q.1 c61))]; rw [zup_zup]; exact ih _ _ _ (some (.int (pof M x 1))) h2.2.2.2)
            · show zS _ _ _ _ _ _ _ 80 _ _ _ _ _
              refine z_iload3 dX12_handlerOf_80 ?_
              refine z_iret dX12_handlerOf_81 rfl ?_
              have e : phA M a (k + 1) m x s = (x, s) := (if_neg c18).trans ((if_pos ⟨c61, c71⟩).trans (if_pos c77))
              rw [e]
              exact ⟨rfl, rfl, rfl, rfl, rfl⟩
      refine z_aload0 dX12_handlerOf_29 ?_
      refine z_iload3 dX12_handlerOf_30 ?_
      refine z_iconst (v := 0) dX12_handlerOf_31 (by decide) ?_
      refine z_callVi zmd_X12_of rfl (by decide) zl_RX12_213 zin_X12_of zsel_X12_of (R_X12_of (d := d - 1) hW _ (by assumption) _ (⟨by decide, by decide⟩ : iv 7 (0 : Int32))) hW.o rfl rfl (by omega) rfl dX12_handlerOf_32 ?_
      refine z_bipush (v := 8) dX12_handlerOf_35 (by decide) ?_
      refine z_icmp_ne (tgt := 53) dX12_handlerOf_37 (by decide) (fun c37 => ?_) (fun c37 => ?_)
      · show zS _ _ _ _ _ _ _ 53 _ _ _ _ _
        first | (rw [show pmk M a x m = m + 1 from if_pos ⟨c37, c47⟩] at K53; exact K53) | (rw [show pmk M a x m = m from if_neg (fun q => absurd q.2 c47)] at K53; exact K53) | (rw [show pmk M a x m = m from if_neg (fun q => absurd q.1 c37)] at K53; exact K53)
      · show zS _ _ _ _ _ _ _ 40 _ _ _ _ _
        refine z_aload0 dX12_handlerOf_40 ?_
        refine z_iload4 dX12_handlerOf_41 ?_
        refine z_callVi zmd_X12_argument rfl (by decide) zl_RX12_137 zin_X12_argument zsel_X12_argument (R_X12_argument (d := d - 1) hW _ (h2.2.1 c37)) hW.o rfl rfl (by omega) rfl dX12_handlerOf_43 ?_
        refine z_iload1 dX12_handlerOf_46 ?_
        refine z_icmp_ne (tgt := 53) dX12_handlerOf_47 (by decide) (fun c47 => ?_) (fun c47 => ?_)
        · show zS _ _ _ _ _ _ _ 53 _ _ _ _ _
          first | (rw [show pmk M a x m = m + 1 from if_pos ⟨c37, c47⟩] at K53; exact K53) | (rw [show pmk M a x m = m from if_neg (fun q => absurd q.2 c47)] at K53; exact K53) | (rw [show pmk M a x m = m from if_neg (fun q => absurd q.1 c37)] at K53; exact K53)
        · show zS _ _ _ _ _ _ _ 50 _ _ _ _ _
          refine z_iinc2 (y := 1) dX12_handlerOf_50 (by decide) ?_
          first | (rw [show pmk M a x m = m + 1 from if_pos ⟨c37, c47⟩] at K53; exact K53) | (rw [show pmk M a x m = m from if_neg (fun q => absurd q.2 c47)] at K53; exact K53) | (rw [show pmk M a x m = m from if_neg (fun q => absurd q.1 c37)] at K53; exact K53)
set_option maxRecDepth 20000 in
theorem R_X12_handlerOf {l : Launch} {d : Nat} {D : zD} {b0 : Nat} {g : zG} {f M : zI} {o : Nat} (hW : RW b0 g o) (a : Int32) (hh : phV M 101 (M 2 7)) (hd : 1 ≤ d) : zM l d D b0 mX12_handlerOf [.ref o, .int a] g (rv o f M) (zEx (some (.int ((phand M a).1))) g (rv o f (zup M 0 28 (phand M a).2))) := by
  refine zM.start zmd_X12_handlerOf (Nat.le_of_ble_eq_true rfl) ⟨rfl, rfl, trivial⟩ [some (.ref o), some (.int a), none, none, none] rfl ?_
  refine z_iconst (v := 0) dX12_handlerOf_0 (by decide) ?_
  refine z_istore2 dX12_handlerOf_1 ?_
  refine z_aload0 dX12_handlerOf_2 ?_
  refine z_iconst (v := 0) dX12_handlerOf_3 (by decide) ?_
  refine zr_putI fl_RX12_248 hW dX12_handlerOf_4 ?_
  refine z_aload0 dX12_handlerOf_7 ?_
  refine z_getRs fl_RX12_14 (by decide) hW.o (hW.r 1 rfl) dX12_handlerOf_8 ?_
  refine z_bipush (v := 7) dX12_handlerOf_11 (by decide) ?_
  refine zr_ld hW (i := 1) rfl (by decide) (by decide) (ixC 7) (by decide) dX12_handlerOf_13 ?_
  refine z_istore3 dX12_handlerOf_14 ?_
  exact Rl_X12_handlerOf hW a hd 101 _ _ _ _ hh
/-- a frame may be pushed -/
def pushV (M : zI) : Prop := iv 39999 (M 2 21) ∧ vd 40000 (M 2 7)
theorem ppush_of {M : zI} {a b c e h x k : Int32} (hx : tn x < tn (M 2 21)) (hk : tn k < 7) : pof (ppush M a b c e h) x k = pof M x k := by
  have n0 : ∀ j, j < 7 → ¬ (7 * tn x + tn k = 7 * tn (M 2 21) + j) := by intro j hj; omega
  unfold pof ppush
  simp [zup, n0]
  exact fun q => absurd q (n0 0 (by omega))
def pexec1 (M : zI) (x : Int32) : zI := zup (zup M 2 (7230 + tn (pof M x 4)) 1) 2 14 (zup M 2 (7230 + tn (pof M x 4)) 1 2 14 + 1)
def pexecV (M : zI) (x : Int32) : Prop := iv 40000 x ∧ tn x < tn (M 2 21) ∧ iv 1200 (pof M x 4) ∧ iv 65000 (pof M x 1) ∧ pushV M
theorem pexec1_w {M : zI} {x : Int32} {k : Nat} (h1 : k < 7230) (h2 : ¬ k = 14) : pexec1 M x 2 k = M 2 k := by
  unfold pexec1
  rw [zup_ne _ _ _ _ (Or.inr h2), zup_ne _ _ _ _ (Or.inr (by omega))]
set_option maxRecDepth 20000 in
theorem R_X12_executeFinalizer {l : Launch} {d : Nat} {D : zD} {b0 : Nat} {g : zG} {f M : zI} {o : Nat} (hW : RW b0 g o) (x v : Int32) (hV : pexecV M x) (hd : 3 ≤ d) : zM l d D b0 mX12_executeFinalizer [.ref o, .int x, .int v] g (rv o f M) (zEx none g (rv o f (pexec M x v))) := by
  have h1 := hV.2.2.1.1
  have hp1 : iv 39999 (pexec1 M x 2 21) := by rw [pexec1_w (by decide) (by decide)]; exact hV.2.2.2.2.1
  have hp2 : vd 40000 (pexec1 M x 2 7) := by rw [pexec1_w (by decide) (by decide)]; exact hV.2.2.2.2.2
  have ho : ∀ k, tn k < 7 → pof (ppush (pexec1 M x) 13 (-9) (-9) (-9) v) x k = pof M x k := fun k hk => ppush_of (by rw [pexec1_w (by decide) (by decide)]; exact hV.2.1) hk
  refine zM.start zmd_X12_executeFinalizer (Nat.le_of_ble_eq_true rfl) ⟨rfl, rfl, rfl, trivial⟩ [some (.ref o), some (.int x), some (.int v)] rfl ?_
  refine z_aload0 dX12_executeFinalizer_0 ?_
  refine z_getRs fl_RX12_14 (by decide) hW.o (hW.r 1 rfl) dX12_executeFinalizer_1 ?_
  refine z_sipush (v := 7230) dX12_executeFinalizer_4 (by decide) ?_
  refine z_aload0 dX12_executeFinalizer_7 ?_
  refine z_iload1 dX12_executeFinalizer_8 ?_
  refine z_iconst (v := 4) dX12_executeFinalizer_9 (by decide) ?_
  refine z_callVi zmd_X12_of rfl (by decide) zl_RX12_213 zin_X12_of zsel_X12_of (R_X12_of (d := d - 1) hW _ hV.1 _ (⟨by decide, by decide⟩ : iv 7 (4 : Int32))) hW.o rfl rfl (by omega) rfl dX12_executeFinalizer_10 ?_
  refine z_iadd dX12_executeFinalizer_13 ?_
  refine z_iconst (v := 1) dX12_executeFinalizer_14 (by decide) ?_
  refine zr_st hW (i := 1) rfl (by decide) (by decide) (ixA (ixC 7230) hV.2.2.1.2) (by omega) dX12_executeFinalizer_15 ?_
  refine z_aload0 dX12_executeFinalizer_16 ?_
  show zS _ _ _ _ _ _ _ 17 _ _ _ _ _
  refine z_getRs fl_RX12_14 (by decide) hW.o (hW.r 1 rfl) dX12_executeFinalizer_17 ?_
  refine z_bipush (v := 14) dX12_executeFinalizer_20 (by decide) ?_
  refine z_dup2 dX12_executeFinalizer_22 ?_
  refine zr_ld hW (i := 1) rfl (by decide) (by decide) (ixC 14) (by decide) dX12_executeFinalizer_23 ?_
  refine z_iconst (v := 1) dX12_executeFinalizer_24 (by decide) ?_
  refine z_iadd dX12_executeFinalizer_25 ?_
  refine zr_st hW (i := 1) rfl (by decide) (by decide) (ixC 14) (by decide) dX12_executeFinalizer_26 ?_
  refine z_aload0 dX12_executeFinalizer_27 ?_
  refine z_bipush (v := 13) dX12_executeFinalizer_28 (by decide) ?_
  refine z_bipush (v := (-9)) dX12_executeFinalizer_30 (by decide) ?_
  refine z_bipush (v := (-9)) dX12_executeFinalizer_32 (by decide) ?_
  refine z_bipush (v := (-9)) dX12_executeFinalizer_34 (by decide) ?_
  show zS _ _ _ _ _ _ _ 36 _ _ _ _ _
  refine z_iload2 dX12_executeFinalizer_36 ?_
  refine z_callVv zmd_X12_push rfl (by decide) zl_RX12_228 zin_X12_push zsel_X12_push (R_X12_push (d := d - 1) hW _ _ _ _ _ hp1 hp2 (by omega)) hW.o rfl rfl (by omega) rfl dX12_executeFinalizer_37 ?_
  refine z_aload0 dX12_executeFinalizer_40 ?_
  refine z_aload0 dX12_executeFinalizer_41 ?_
  refine z_aload0 dX12_executeFinalizer_42 ?_
  refine z_iload1 dX12_executeFinalizer_43 ?_
  refine z_iconst (v := 1) dX12_executeFinalizer_44 (by decide) ?_
  refine z_callVi zmd_X12_of rfl (by decide) zl_RX12_213 zin_X12_of zsel_X12_of (R_X12_of (d := d - 1) hW _ hV.1 _ (⟨by decide, by decide⟩ : iv 7 (1 : Int32))) hW.o rfl rfl (by omega) rfl dX12_executeFinalizer_45 ?_
  refine z_iconst (v := 2) dX12_executeFinalizer_48 (by decide) ?_
  refine z_callVi zmd_X12_part rfl (by decide) zl_RX12_165 zin_X12_part zsel_X12_part (R_X12_part (d := d - 1) hW _ (show iv 65000 (pof (ppush (pexec1 M x) 13 (-9) (-9) (-9) v) x 1) from by rw [ho 1 (by decide)]; exact hV.2.2.2.1) _ (⟨by decide, by decide⟩ : iv 4 (2 : Int32))) hW.o rfl rfl (by omega) rfl dX12_executeFinalizer_49 ?_
  refine z_aload0 dX12_executeFinalizer_52 ?_
  refine z_iload1 dX12_executeFinalizer_53 ?_
  show zS _ _ _ _ _ _ _ 54 _ _ _ _ _
  refine z_iconst (v := 2) dX12_executeFinalizer_54 (by decide) ?_
  refine z_callVi zmd_X12_of rfl (by decide) zl_RX12_213 zin_X12_of zsel_X12_of (R_X12_of (d := d - 1) hW _ hV.1 _ (⟨by decide, by decide⟩ : iv 7 (2 : Int32))) hW.o rfl rfl (by omega) rfl dX12_executeFinalizer_55 ?_
  refine z_aload0 dX12_executeFinalizer_58 ?_
  refine z_iload1 dX12_executeFinalizer_59 ?_
  refine z_iconst (v := 3) dX12_executeFinalizer_60 (by decide) ?_
  refine z_callVi zmd_X12_of rfl (by decide) zl_RX12_213 zin_X12_of zsel_X12_of (R_X12_of (d := d - 1) hW _ hV.1 _ (⟨by decide, by decide⟩ : iv 7 (3 : Int32))) hW.o rfl rfl (by omega) rfl dX12_executeFinalizer_61 ?_
  refine z_callVv zmd_X12_focusOn rfl (by decide) zl_RX12_238 zin_X12_focusOn zsel_X12_focusOn (R_X12_focusOn (d := d - 1) hW _ _ _) hW.o rfl rfl (by omega) rfl dX12_executeFinalizer_64 ?_
  refine z_ret dX12_executeFinalizer_67 rfl ?_
  exact ⟨rfl, rfl, rfl, rfl, rfl⟩
def pleave (M : zI) (x v : Int32) : zI :=
  if pclause M (pof M x 1) 6 = -9 then pbecome M v else pfocusOn (pbindTo M (pof M x 2) (parg M (pclause M (pof M x 1) 6)) v) (ppart M (pclause M (pof M x 1) 6) 1) (M 2 22) (pof M x 3)
def pleaveV (M : zI) (x : Int32) : Prop := iv 40000 x ∧ iv 65000 (pof M x 1) ∧ pclOk M (pof M x 1) ∧ (¬ pclause M (pof M x 1) 6 = -9 → iv 65000 (pclause M (pof M x 1) 6)) ∧ iv 1200 (M 2 22)
def pcall (M : zI) (x v : Int32) : zI :=
  if M 2 (1 + tn (parg M (pof M x 1))) = -9 then pbecome M v else pfocusOn (pbindTo M (-9) 23 v) (M 2 (1 + tn (parg M (pof M x 1)))) (M 2 22) (-9)
def pcallV (M : zI) (x : Int32) : Prop := iv 40000 x ∧ iv 65000 (pof M x 1) ∧ iv 4 (parg M (pof M x 1)) ∧ iv 1200 (M 2 22)
set_option maxRecDepth 20000 in
theorem R_X12_leaveHandler {l : Launch} {d : Nat} {D : zD} {b0 : Nat} {g : zG} {f M : zI} {o : Nat} (hW : RW b0 g o) (x v : Int32) (hV : pleaveV M x) (hd : 1 ≤ d) : zM l d D b0 mX12_leaveHandler [.ref o, .int x, .int v] g (rv o f M) (zEx none g (rv o f (pleave M x v))) := by
  refine zM.start zmd_X12_leaveHandler (Nat.le_of_ble_eq_true rfl) ⟨rfl, rfl, rfl, trivial⟩ [some (.ref o), some (.int x), some (.int v), none] rfl ?_
  refine z_aload0 dX12_leaveHandler_0 ?_
  refine z_aload0 dX12_leaveHandler_1 ?_
  refine z_iload1 dX12_leaveHandler_2 ?_
  refine z_iconst (v := 1) dX12_leaveHandler_3 (by decide) ?_
  refine z_callVi zmd_X12_of rfl (by decide) zl_RX12_213 zin_X12_of zsel_X12_of (R_X12_of (d := d - 1) hW _ hV.1 _ (⟨by decide, by decide⟩ : iv 7 (1 : Int32))) hW.o rfl rfl (by omega) rfl dX12_leaveHandler_4 ?_
  refine z_bipush (v := 6) dX12_leaveHandler_7 (by decide) ?_
  refine z_callVi zmd_X12_clause rfl (by decide) zl_RX12_131 zin_X12_clause zsel_X12_clause (R_X12_clause (d := d - 1) hW _ _ hV.2.1 hV.2.2.1) hW.o rfl rfl (by omega) rfl dX12_leaveHandler_9 ?_
  refine z_istore3 dX12_leaveHandler_12 ?_
  refine z_iload3 dX12_leaveHandler_13 ?_
  refine z_bipush (v := (-9)) dX12_leaveHandler_14 (by decide) ?_
  refine z_icmp_ne (tgt := 27) dX12_leaveHandler_16 (by decide) (fun c16 => ?_) (fun c16 => ?_)
  · show zS _ _ _ _ _ _ _ 27 _ _ _ _ _
    refine z_aload0 dX12_leaveHandler_27 ?_
    refine z_aload0 dX12_leaveHandler_28 ?_
    refine z_iload3 dX12_leaveHandler_29 ?_
    refine z_iconst (v := 1) dX12_leaveHandler_30 (by decide) ?_
    refine z_callVi zmd_X12_part rfl (by decide) zl_RX12_165 zin_X12_part zsel_X12_part (R_X12_part (d := d - 1) hW _ (hV.2.2.2.1 c16) _ (⟨by decide, by decide⟩ : iv 4 (1 : Int32))) hW.o rfl rfl (by omega) rfl dX12_leaveHandler_31 ?_
    refine z_aload0 dX12_leaveHandler_34 ?_
    refine z_aload0 dX12_leaveHandler_35 ?_
    refine z_iload1 dX12_leaveHandler_36 ?_
    refine z_iconst (v := 2) dX12_leaveHandler_37 (by decide) ?_
    refine z_callVi zmd_X12_of rfl (by decide) zl_RX12_213 zin_X12_of zsel_X12_of (R_X12_of (d := d - 1) hW _ hV.1 _ (⟨by decide, by decide⟩ : iv 7 (2 : Int32))) hW.o rfl rfl (by omega) rfl dX12_leaveHandler_38 ?_
    refine z_aload0 dX12_leaveHandler_41 ?_
    show zS _ _ _ _ _ _ _ 42 _ _ _ _ _
    refine z_iload3 dX12_leaveHandler_42 ?_
    refine z_callVi zmd_X12_argument rfl (by decide) zl_RX12_137 zin_X12_argument zsel_X12_argument (R_X12_argument (d := d - 1) hW _ (hV.2.2.2.1 c16)) hW.o rfl rfl (by omega) rfl dX12_leaveHandler_43 ?_
    refine z_iload2 dX12_leaveHandler_46 ?_
    refine z_callVi zmd_X12_bindTo rfl (by decide) zl_RX12_257 zin_X12_bindTo zsel_X12_bindTo (R_X12_bindTo (d := d - 1) hW _ _ _ hV.2.2.2.2) hW.o rfl rfl (by omega) rfl dX12_leaveHandler_47 ?_
    refine z_aload0 dX12_leaveHandler_50 ?_
    refine z_iload1 dX12_leaveHandler_51 ?_
    refine z_iconst (v := 3) dX12_leaveHandler_52 (by decide) ?_
    refine z_callVi zmd_X12_of rfl (by decide) zl_RX12_213 zin_X12_of zsel_X12_of (R_X12_of (d := d - 1) hW _ hV.1 _ (⟨by decide, by decide⟩ : iv 7 (3 : Int32))) hW.o rfl rfl (by omega) rfl dX12_leaveHandler_53 ?_
    refine z_callVv zmd_X12_focusOn rfl (by decide) zl_RX12_238 zin_X12_focusOn zsel_X12_focusOn (R_X12_focusOn (d := d - 1) hW _ _ _) hW.o rfl rfl (by omega) rfl dX12_leaveHandler_56 ?_
    refine z_ret dX12_leaveHandler_59 rfl ?_
    refine ⟨rfl, rfl, ?_, rfl, rfl⟩
    unfold pleave
    first | (rw [if_pos (by assumption)]; done) | (rw [if_neg (by assumption)]; done) | (rw [if_neg (by assumption)]; rfl)
  · show zS _ _ _ _ _ _ _ 19 _ _ _ _ _
    refine z_aload0 dX12_leaveHandler_19 ?_
    refine z_iload2 dX12_leaveHandler_20 ?_
    refine z_callVv zmd_X12_become rfl (by decide) zl_RX12_219 zin_X12_become zsel_X12_become (R_X12_become (d := d - 1) hW _) hW.o rfl rfl (by omega) rfl dX12_leaveHandler_21 ?_
    refine z_goto (tgt := 59) dX12_leaveHandler_24 (by decide) ?_
    show zS _ _ _ _ _ _ _ 59 _ _ _ _ _
    refine z_ret dX12_leaveHandler_59 rfl ?_
    refine ⟨rfl, rfl, ?_, rfl, rfl⟩
    unfold pleave
    first | (rw [if_pos (by assumption)]; done) | (rw [if_neg (by assumption)]; done) | (rw [if_neg (by assumption)]; rfl)
set_option maxRecDepth 20000 in
theorem R_X12_call {l : Launch} {d : Nat} {D : zD} {b0 : Nat} {g : zG} {f M : zI} {o : Nat} (hW : RW b0 g o) (x v : Int32) (hV : pcallV M x) (hd : 1 ≤ d) : zM l d D b0 mX12_call [.ref o, .int x, .int v] g (rv o f M) (zEx none g (rv o f (pcall M x v))) := by
  have h1 := hV.2.2.1.1
  refine zM.start zmd_X12_call (Nat.le_of_ble_eq_true rfl) ⟨rfl, rfl, rfl, trivial⟩ [some (.ref o), some (.int x), some (.int v), none] rfl ?_
  refine z_aload0 dX12_call_0 ?_
  refine z_getRs fl_RX12_14 (by decide) hW.o (hW.r 1 rfl) dX12_call_1 ?_
  refine z_iconst (v := 1) dX12_call_4 (by decide) ?_
  refine z_aload0 dX12_call_5 ?_
  refine z_aload0 dX12_call_6 ?_
  refine z_iload1 dX12_call_7 ?_
  refine z_iconst (v := 1) dX12_call_8 (by decide) ?_
  refine z_callVi zmd_X12_of rfl (by decide) zl_RX12_213 zin_X12_of zsel_X12_of (R_X12_of (d := d - 1) hW _ hV.1 _ (⟨by decide, by decide⟩ : iv 7 (1 : Int32))) hW.o rfl rfl (by omega) rfl dX12_call_9 ?_
  refine z_callVi zmd_X12_argument rfl (by decide) zl_RX12_137 zin_X12_argument zsel_X12_argument (R_X12_argument (d := d - 1) hW _ hV.2.1) hW.o rfl rfl (by omega) rfl dX12_call_12 ?_
  refine z_iadd dX12_call_15 ?_
  refine zr_ld hW (i := 1) rfl (by decide) (by decide) (ixA (ixC 1) hV.2.2.1.2) (by omega) dX12_call_16 ?_
  show zS _ _ _ _ _ _ _ 17 _ _ _ _ _
  refine z_istore3 dX12_call_17 ?_
  refine z_iload3 dX12_call_18 ?_
  refine z_bipush (v := (-9)) dX12_call_19 (by decide) ?_
  refine z_icmp_ne (tgt := 32) dX12_call_21 (by decide) (fun c21 => ?_) (fun c21 => ?_)
  · show zS _ _ _ _ _ _ _ 32 _ _ _ _ _
    refine z_aload0 dX12_call_32 ?_
    refine z_iload3 dX12_call_33 ?_
    refine z_aload0 dX12_call_34 ?_
    refine z_bipush (v := (-9)) dX12_call_35 (by decide) ?_
    refine z_bipush (v := 23) dX12_call_37 (by decide) ?_
    refine z_iload2 dX12_call_39 ?_
    refine z_callVi zmd_X12_bindTo rfl (by decide) zl_RX12_257 zin_X12_bindTo zsel_X12_bindTo (R_X12_bindTo (d := d - 1) hW _ _ _ hV.2.2.2) hW.o rfl rfl (by omega) rfl dX12_call_40 ?_
    refine z_bipush (v := (-9)) dX12_call_43 (by decide) ?_
    refine z_callVv zmd_X12_focusOn rfl (by decide) zl_RX12_238 zin_X12_focusOn zsel_X12_focusOn (R_X12_focusOn (d := d - 1) hW _ _ _) hW.o rfl rfl (by omega) rfl dX12_call_45 ?_
    refine z_ret dX12_call_48 rfl ?_
    refine ⟨rfl, rfl, ?_, rfl, rfl⟩
    unfold pcall
    first | (rw [if_pos (by assumption)]; done) | (rw [if_neg (by assumption)]; done) | (rw [if_neg (by assumption)]; rfl)
  · show zS _ _ _ _ _ _ _ 24 _ _ _ _ _
    refine z_aload0 dX12_call_24 ?_
    refine z_iload2 dX12_call_25 ?_
    refine z_callVv zmd_X12_become rfl (by decide) zl_RX12_219 zin_X12_become zsel_X12_become (R_X12_become (d := d - 1) hW _) hW.o rfl rfl (by omega) rfl dX12_call_26 ?_
    refine z_goto (tgt := 48) dX12_call_29 (by decide) ?_
    show zS _ _ _ _ _ _ _ 48 _ _ _ _ _
    refine z_ret dX12_call_48 rfl ?_
    refine ⟨rfl, rfl, ?_, rfl, rfl⟩
    unfold pcall
    first | (rw [if_pos (by assumption)]; done) | (rw [if_neg (by assumption)]; done) | (rw [if_neg (by assumption)]; rfl)
def pf1 (M : zI) (a : Int32) : zI :=
  let M1 := zup M 2 10 (M 2 10 + 1)
  zup M1 2 (24 + tn a) (M1 2 (24 + tn a) + 1)
def pf3 (M : zI) (a : Int32) : zI := zup (pf1 M a) 0 28 (phand (pf1 M a) a).2
def pfh (M : zI) (a : Int32) : Int32 := (phand (pf1 M a) a).1
def pf4 (M : zI) (a : Int32) : zI := pmakeRes (pf3 M a) (pf3 M a 2 7) (pf3 M a 0 28 + 1)
def pf5 (M : zI) (a : Int32) : zI := zup (pf4 M a) 2 7 (pof (pf4 M a) (pfh M a) 5)
def pf6 (M : zI) (a : Int32) : zI := ppush (pf5 M a) 14 (-9) (-9) (-9) (pf3 M a 2 11)
def pfc (M : zI) (a : Int32) : Int32 := pclause (pf4 M a) (pof (pf4 M a) (pfh M a) 1) a
def pf7 (M : zI) (a v : Int32) : zI := pbindTo (pf6 M a) (pof (pf6 M a) (pfh M a) 2) (parg (pf6 M a) (pfc M a)) v
def pperf (M : zI) (a v : Int32) : zI :=
  if pfh M a = -9 then zup (zup (zup (zup (pf3 M a) 2 5 3) 2 15 a) 2 20 v) 2 16 0
  else pfocusOn (pf7 M a v) (ppart (pf6 M a) (pfc M a) 1) (pf6 M a 2 22) (pf3 M a 2 11)
def pperfV (M : zI) (a : Int32) : Prop := iv 6 a ∧ phV (pf1 M a) 101 (pf1 M a 2 7) ∧ (¬ pfh M a = -9 →
  iv 1200 (pf3 M a 2 11) ∧ iv 40000 (pfh M a) ∧ iv 65000 (pof (pf4 M a) (pfh M a) 1) ∧ pclOk (pf4 M a) (pof (pf4 M a) (pfh M a) 1) ∧ pushV (pf5 M a) ∧ iv 65000 (pfc M a) ∧ iv 1200 (pf6 M a 2 22))
set_option maxRecDepth 20000 in
theorem R_X12_perform {l : Launch} {d : Nat} {D : zD} {b0 : Nat} {g : zG} {f M : zI} {o : Nat} (hW : RW b0 g o) (a v : Int32) (hV : pperfV M a) (hd : 3 ≤ d) : zM l d D b0 mX12_perform [.ref o, .int a, .int v] g (rv o f M) (zEx none g (rv o f (pperf M a v))) := by
  have h1 := hV.1.1
  refine zM.start zmd_X12_perform (Nat.le_of_ble_eq_true rfl) ⟨rfl, rfl, rfl, trivial⟩ [some (.ref o), some (.int a), some (.int v), none, none, none] rfl ?_
  refine z_aload0 dX12_perform_0 ?_
  refine z_getRs fl_RX12_14 (by decide) hW.o (hW.r 1 rfl) dX12_perform_1 ?_
  refine z_bipush (v := 10) dX12_perform_4 (by decide) ?_
  refine z_dup2 dX12_perform_6 ?_
  refine zr_ld hW (i := 1) rfl (by decide) (by decide) (ixC 10) (by decide) dX12_perform_7 ?_
  refine z_iconst (v := 1) dX12_perform_8 (by decide) ?_
  refine z_iadd dX12_perform_9 ?_
  refine zr_st hW (i := 1) rfl (by decide) (by decide) (ixC 10) (by decide) dX12_perform_10 ?_
  refine z_aload0 dX12_perform_11 ?_
  refine z_getRs fl_RX12_14 (by decide) hW.o (hW.r 1 rfl) dX12_perform_12 ?_
  refine z_bipush (v := 24) dX12_perform_15 (by decide) ?_
  show zS _ _ _ _ _ _ _ 17 _ _ _ _ _
  refine z_iload1 dX12_perform_17 ?_
  refine z_iadd dX12_perform_18 ?_
  refine z_dup2 dX12_perform_19 ?_
  refine zr_ld hW (i := 1) rfl (by decide) (by decide) (ixA (ixC 24) hV.1.2) (by omega) dX12_perform_20 ?_
  refine z_iconst (v := 1) dX12_perform_21 (by decide) ?_
  refine z_iadd dX12_perform_22 ?_
  refine zr_st hW (i := 1) rfl (by decide) (by decide) (ixA (ixC 24) hV.1.2) (by omega) dX12_perform_23 ?_
  refine z_aload0 dX12_perform_24 ?_
  refine z_iload1 dX12_perform_25 ?_
  refine z_callVi zmd_X12_handlerOf rfl (by decide) zl_RX12_251 zin_X12_handlerOf zsel_X12_handlerOf (R_X12_handlerOf (d := d - 1) hW _ hV.2.1 (by omega)) hW.o rfl rfl (by omega) rfl dX12_perform_26 ?_
  refine z_istore3 dX12_perform_29 ?_
  refine z_iload3 dX12_perform_30 ?_
  show zS _ _ _ _ _ _ _ 31 _ _ _ _ _
  refine z_bipush (v := (-9)) dX12_perform_31 (by decide) ?_
  refine z_icmp_ne (tgt := 68) dX12_perform_33 (by decide) (fun c33 => ?_) (fun c33 => ?_)
  · show zS _ _ _ _ _ _ _ 68 _ _ _ _ _
    have h2 := hV.2.2 c33
    refine z_aload0 dX12_perform_68 ?_
    refine z_aload0 dX12_perform_69 ?_
    refine z_getRs fl_RX12_14 (by decide) hW.o (hW.r 1 rfl) dX12_perform_70 ?_
    refine z_bipush (v := 7) dX12_perform_73 (by decide) ?_
    refine zr_ld hW (i := 1) rfl (by decide) (by decide) (ixC 7) (by decide) dX12_perform_75 ?_
    refine z_aload0 dX12_perform_76 ?_
    refine zr_getI fl_RX12_248 hW dX12_perform_77 ?_
    refine z_iconst (v := 1) dX12_perform_80 (by decide) ?_
    refine z_iadd dX12_perform_81 ?_
    refine z_callVi zmd_X12_makeResumption rfl (by decide) zl_RX12_254 zin_X12_makeResumption zsel_X12_makeResumption (R_X12_makeResumption (d := d - 1) hW _ _ h2.1) hW.o rfl rfl (by omega) rfl dX12_perform_82 ?_
    refine z_istore4 dX12_perform_85 ?_
    show zS _ _ _ _ _ _ _ 87 _ _ _ _ _
    refine z_aload0 dX12_perform_87 ?_
    refine z_aload0 dX12_perform_88 ?_
    refine z_iload3 dX12_perform_89 ?_
    refine z_iconst (v := 1) dX12_perform_90 (by decide) ?_
    refine z_callVi zmd_X12_of rfl (by decide) zl_RX12_213 zin_X12_of zsel_X12_of (R_X12_of (d := d - 1) hW _ h2.2.1 _ (⟨by decide, by decide⟩ : iv 7 (1 : Int32))) hW.o rfl rfl (by omega) rfl dX12_perform_91 ?_
    refine z_iload1 dX12_perform_94 ?_
    refine z_callVi zmd_X12_clause rfl (by decide) zl_RX12_131 zin_X12_clause zsel_X12_clause (R_X12_clause (d := d - 1) hW _ _ h2.2.2.1 h2.2.2.2.1) hW.o rfl rfl (by omega) rfl dX12_perform_95 ?_
    refine z_istore5 dX12_perform_98 ?_
    refine z_aload0 dX12_perform_100 ?_
    refine z_getRs fl_RX12_14 (by decide) hW.o (hW.r 1 rfl) dX12_perform_101 ?_
    refine z_bipush (v := 7) dX12_perform_104 (by decide) ?_
    refine z_aload0 dX12_perform_106 ?_
    show zS _ _ _ _ _ _ _ 107 _ _ _ _ _
    refine z_iload3 dX12_perform_107 ?_
    refine z_iconst (v := 5) dX12_perform_108 (by decide) ?_
    refine z_callVi zmd_X12_of rfl (by decide) zl_RX12_213 zin_X12_of zsel_X12_of (R_X12_of (d := d - 1) hW _ h2.2.1 _ (⟨by decide, by decide⟩ : iv 7 (5 : Int32))) hW.o rfl rfl (by omega) rfl dX12_perform_109 ?_
    refine zr_st hW (i := 1) rfl (by decide) (by decide) (ixC 7) (by decide) dX12_perform_112 ?_
    refine z_aload0 dX12_perform_113 ?_
    refine z_bipush (v := 14) dX12_perform_114 (by decide) ?_
    refine z_bipush (v := (-9)) dX12_perform_116 (by decide) ?_
    refine z_bipush (v := (-9)) dX12_perform_118 (by decide) ?_
    refine z_bipush (v := (-9)) dX12_perform_120 (by decide) ?_
    refine z_iload4 dX12_perform_122 ?_
    refine z_callVv zmd_X12_push rfl (by decide) zl_RX12_228 zin_X12_push zsel_X12_push (R_X12_push (d := d - 1) hW _ _ _ _ _ h2.2.2.2.2.1.1 h2.2.2.2.2.1.2 (by omega)) hW.o rfl rfl (by omega) rfl dX12_perform_124 ?_
    refine z_aload0 dX12_perform_127 ?_
    show zS _ _ _ _ _ _ _ 128 _ _ _ _ _
    refine z_aload0 dX12_perform_128 ?_
    refine z_iload5 dX12_perform_129 ?_
    refine z_iconst (v := 1) dX12_perform_131 (by decide) ?_
    refine z_callVi zmd_X12_part rfl (by decide) zl_RX12_165 zin_X12_part zsel_X12_part (R_X12_part (d := d - 1) hW _ h2.2.2.2.2.2.1 _ (⟨by decide, by decide⟩ : iv 4 (1 : Int32))) hW.o rfl rfl (by omega) rfl dX12_perform_132 ?_
    refine z_aload0 dX12_perform_135 ?_
    refine z_aload0 dX12_perform_136 ?_
    refine z_iload3 dX12_perform_137 ?_
    refine z_iconst (v := 2) dX12_perform_138 (by decide) ?_
    refine z_callVi zmd_X12_of rfl (by decide) zl_RX12_213 zin_X12_of zsel_X12_of (R_X12_of (d := d - 1) hW _ h2.2.1 _ (⟨by decide, by decide⟩ : iv 7 (2 : Int32))) hW.o rfl rfl (by omega) rfl dX12_perform_139 ?_
    refine z_aload0 dX12_perform_142 ?_
    refine z_iload5 dX12_perform_143 ?_
    refine z_callVi zmd_X12_argument rfl (by decide) zl_RX12_137 zin_X12_argument zsel_X12_argument (R_X12_argument (d := d - 1) hW _ h2.2.2.2.2.2.1) hW.o rfl rfl (by omega) rfl dX12_perform_145 ?_
    show zS _ _ _ _ _ _ _ 148 _ _ _ _ _
    refine z_iload2 dX12_perform_148 ?_
    refine z_callVi zmd_X12_bindTo rfl (by decide) zl_RX12_257 zin_X12_bindTo zsel_X12_bindTo (R_X12_bindTo (d := d - 1) hW _ _ _ h2.2.2.2.2.2.2) hW.o rfl rfl (by omega) rfl dX12_perform_149 ?_
    refine z_iload4 dX12_perform_152 ?_
    refine z_callVv zmd_X12_focusOn rfl (by decide) zl_RX12_238 zin_X12_focusOn zsel_X12_focusOn (R_X12_focusOn (d := d - 1) hW _ _ _) hW.o rfl rfl (by omega) rfl dX12_perform_154 ?_
    refine z_ret dX12_perform_157 rfl ?_
    refine ⟨rfl, rfl, ?_, rfl, rfl⟩
    unfold pperf
    first | (rw [if_pos (by assumption)]; rfl) | (rw [if_neg (by assumption)]; rfl)
  · show zS _ _ _ _ _ _ _ 36 _ _ _ _ _
    refine z_aload0 dX12_perform_36 ?_
    refine z_getRs fl_RX12_14 (by decide) hW.o (hW.r 1 rfl) dX12_perform_37 ?_
    refine z_iconst (v := 5) dX12_perform_40 (by decide) ?_
    refine z_iconst (v := 3) dX12_perform_41 (by decide) ?_
    refine zr_st hW (i := 1) rfl (by decide) (by decide) (ixC 5) (by decide) dX12_perform_42 ?_
    refine z_aload0 dX12_perform_43 ?_
    refine z_getRs fl_RX12_14 (by decide) hW.o (hW.r 1 rfl) dX12_perform_44 ?_
    refine z_bipush (v := 15) dX12_perform_47 (by decide) ?_
    refine z_iload1 dX12_perform_49 ?_
    refine zr_st hW (i := 1) rfl (by decide) (by decide) (ixC 15) (by decide) dX12_perform_50 ?_
    refine z_aload0 dX12_perform_51 ?_
    show zS _ _ _ _ _ _ _ 52 _ _ _ _ _
    refine z_getRs fl_RX12_14 (by decide) hW.o (hW.r 1 rfl) dX12_perform_52 ?_
    refine z_bipush (v := 20) dX12_perform_55 (by decide) ?_
    refine z_iload2 dX12_perform_57 ?_
    refine zr_st hW (i := 1) rfl (by decide) (by decide) (ixC 20) (by decide) dX12_perform_58 ?_
    refine z_aload0 dX12_perform_59 ?_
    refine z_getRs fl_RX12_14 (by decide) hW.o (hW.r 1 rfl) dX12_perform_60 ?_
    refine z_bipush (v := 16) dX12_perform_63 (by decide) ?_
    refine z_iconst (v := 0) dX12_perform_65 (by decide) ?_
    refine zr_st hW (i := 1) rfl (by decide) (by decide) (ixC 16) (by decide) dX12_perform_66 ?_
    refine z_ret dX12_perform_67 rfl ?_
    refine ⟨rfl, rfl, ?_, rfl, rfl⟩
    unfold pperf
    first | (rw [if_pos (by assumption)]; rfl) | (rw [if_neg (by assumption)]; rfl)
def presumesV (M : zI) (r : Int32) : Prop := iv 1200 r ∧ vd 40000 (M 2 7) ∧ (¬ 100 < pdepth M + prMany M r →
  (∃ m : Nat, m ≤ 100 ∧ prMany M r = nI m ∧ pagV M m (prTop M r) ∧ ppuV m (pag m 0 (prTop M r) M)))
def presumes (M : zI) (r v : Int32) : Int32 × zI := if 100 < pdepth M + prMany M r then (0, M) else (1, presume M r v)
set_option maxRecDepth 20000 in
theorem Rl_X12_resumes2 {l : Launch} {d : Nat} {D : zD} {b0 : Nat} {g : zG} {f : zI} {o : Nat} (hW : RW b0 g o) (r v y x4 : Int32) (hd : 3 ≤ d) (Q : Nat → Nat → zKT → Prop) : ∀ (j : Nat) (M : zI), ppuV j M → j ≤ 100 → (∀ x5 : Int32, zS l d D b0 mX12_resumes 0 0 155 [some (.ref o), some (.int r), some (.int v), some (.int y), some (.int x4), some (.int x5)] [] g (rv o f (ppu j M)) Q) → zS l d D b0 mX12_resumes 0 0 80 [some (.ref o), some (.int r), some (.int v), some (.int y), some (.int x4), some (.int (nI j - 1))] [] g (rv o f M) Q := by
  intro j
  induction j with
  | zero =>
    intro M hV hj kk
    refine z_iload5 dX12_resumes_80 ?_
    refine z_if_lt (tgt := 155) dX12_resumes_82 (by decide) (fun c82 => ?_) (fun c82 => ?_)
    · exact kk _
    · exact absurd (by decide : (nI 0 - 1 : Int32) < 0) c82
  | succ j ih =>
    intro M hV hj kk
    have hj : j ≤ 100 := by omega
    have hx : (nI (j + 1) - 1 : Int32) = nI j := nI_pred j
    have hj1 : j < 100 := by omega
    rw [hx]
    refine z_iload5 dX12_resumes_80 ?_
    refine z_if_lt (tgt := 155) dX12_resumes_82 (by decide) (fun c82 => absurd c82 (nI_pos (by omega))) (fun c82 => ?_)
    show zS _ _ _ _ _ _ _ 85 _ _ _ _ _
    refine z_aload0 dX12_resumes_85 ?_
    refine z_aload0 dX12_resumes_86 ?_
    refine z_aload0 dX12_resumes_87 ?_
    refine z_getRs fl_RX12_59 (by decide) hW.o (hW.r 15 rfl) dX12_resumes_88 ?_
    refine z_iload5 dX12_resumes_91 ?_
    refine zr_ld hW (i := 15) rfl (by decide) (by decide) (rfl : nI j = nI j) (by omega) dX12_resumes_93 ?_
    refine z_iconst (v := 0) dX12_resumes_94 (by decide) ?_
    refine z_callVi zmd_X12_of rfl (by decide) zl_RX12_213 zin_X12_of zsel_X12_of (R_X12_of (d := d - 1) hW _ hV.1 _ (⟨by decide, by decide⟩ : iv 7 (0 : Int32))) hW.o rfl rfl (by omega) rfl dX12_resumes_95 ?_
    refine z_aload0 dX12_resumes_98 ?_
    refine z_aload0 dX12_resumes_99 ?_
    refine z_getRs fl_RX12_59 (by decide) hW.o (hW.r 15 rfl) dX12_resumes_100 ?_
    show zS _ _ _ _ _ _ _ 103 _ _ _ _ _
    refine z_iload5 dX12_resumes_103 ?_
    refine zr_ld hW (i := 15) rfl (by decide) (by decide) (rfl : nI j = nI j) (by omega) dX12_resumes_105 ?_
    refine z_iconst (v := 1) dX12_resumes_106 (by decide) ?_
    refine z_callVi zmd_X12_of rfl (by decide) zl_RX12_213 zin_X12_of zsel_X12_of (R_X12_of (d := d - 1) hW _ hV.1 _ (⟨by decide, by decide⟩ : iv 7 (1 : Int32))) hW.o rfl rfl (by omega) rfl dX12_resumes_107 ?_
    refine z_aload0 dX12_resumes_110 ?_
    refine z_aload0 dX12_resumes_111 ?_
    refine z_getRs fl_RX12_59 (by decide) hW.o (hW.r 15 rfl) dX12_resumes_112 ?_
    refine z_iload5 dX12_resumes_115 ?_
    refine zr_ld hW (i := 15) rfl (by decide) (by decide) (rfl : nI j = nI j) (by omega) dX12_resumes_117 ?_
    refine z_iconst (v := 2) dX12_resumes_118 (by decide) ?_
    refine z_callVi zmd_X12_of rfl (by decide) zl_RX12_213 zin_X12_of zsel_X12_of (R_X12_of (d := d - 1) hW _ hV.1 _ (⟨by decide, by decide⟩ : iv 7 (2 : Int32))) hW.o rfl rfl (by omega) rfl dX12_resumes_119 ?_
    refine z_aload0 dX12_resumes_122 ?_
    show zS _ _ _ _ _ _ _ 123 _ _ _ _ _
    refine z_aload0 dX12_resumes_123 ?_
    refine z_getRs fl_RX12_59 (by decide) hW.o (hW.r 15 rfl) dX12_resumes_124 ?_
    refine z_iload5 dX12_resumes_127 ?_
    refine zr_ld hW (i := 15) rfl (by decide) (by decide) (rfl : nI j = nI j) (by omega) dX12_resumes_129 ?_
    refine z_iconst (v := 3) dX12_resumes_130 (by decide) ?_
    refine z_callVi zmd_X12_of rfl (by decide) zl_RX12_213 zin_X12_of zsel_X12_of (R_X12_of (d := d - 1) hW _ hV.1 _ (⟨by decide, by decide⟩ : iv 7 (3 : Int32))) hW.o rfl rfl (by omega) rfl dX12_resumes_131 ?_
    refine z_aload0 dX12_resumes_134 ?_
    refine z_aload0 dX12_resumes_135 ?_
    refine z_getRs fl_RX12_59 (by decide) hW.o (hW.r 15 rfl) dX12_resumes_136 ?_
    refine z_iload5 dX12_resumes_139 ?_
    refine zr_ld hW (i := 15) rfl (by decide) (by decide) (rfl : nI j = nI j) (by omega) dX12_resumes_141 ?_
    refine z_iconst (v := 4) dX12_resumes_142 (by decide) ?_
    show zS _ _ _ _ _ _ _ 143 _ _ _ _ _
    refine z_callVi zmd_X12_of rfl (by decide) zl_RX12_213 zin_X12_of zsel_X12_of (R_X12_of (d := d - 1) hW _ hV.1 _ (⟨by decide, by decide⟩ : iv 7 (4 : Int32))) hW.o rfl rfl (by omega) rfl dX12_resumes_143 ?_
    refine z_callVv zmd_X12_push rfl (by decide) zl_RX12_228 zin_X12_push zsel_X12_push (R_X12_push (d := d - 1) hW _ _ _ _ _ hV.2.1 hV.2.2.1 (by omega)) hW.o rfl rfl (by omega) rfl dX12_resumes_146 ?_
    refine z_iinc5 (y := (-1)) dX12_resumes_149 (by decide) ?_
    refine z_goto (tgt := 80) dX12_resumes_152 (by decide) ?_
    show zS _ _ _ _ _ _ _ 80 _ _ _ _ _
    rw [show (nI j + -1 : Int32) = nI j - 1 from by rw [Int32.sub_eq_add_neg]]
    exact ih (ppu1 M j) hV.2.2.2 hj kk
theorem pagV_16 {M : zI} {k : Nat} {y : Int32} : ∀ {n : Nat} {x : Int32}, pagV M n x → pagV (zup M 16 k y) n x := by
  intro n
  induction n with
  | zero => intro x h; exact trivial
  | succ n ih => intro x h; exact ⟨h.1, ih h.2⟩
set_option maxRecDepth 20000 in
theorem Rl_X12_resumes1 {l : Launch} {d : Nat} {D : zD} {b0 : Nat} {g : zG} {f : zI} {o : Nat} (hW : RW b0 g o) (r v : Int32) (m : Nat) (hm : m ≤ 100) (hd : 3 ≤ d) (Q : Nat → Nat → zKT → Prop) : ∀ (j : Nat) (M : zI) (k : Nat) (x : Int32), pagV M j x → k + j = m → k ≤ m → (∀ x4 x5 : Int32, zS l d D b0 mX12_resumes 0 0 75 [some (.ref o), some (.int r), some (.int v), some (.int (nI m)), some (.int x4), some (.int x5)] [] g (rv o f (pag j k x M)) Q) → zS l d D b0 mX12_resumes 0 0 45 [some (.ref o), some (.int r), some (.int v), some (.int (nI m)), some (.int x), some (.int (nI k))] [] g (rv o f M) Q := by
  intro j
  induction j with
  | zero =>
    intro M k x hV hk hk2 kk
    refine z_iload5 dX12_resumes_45 ?_
    refine z_iload3 dX12_resumes_47 ?_
    refine z_icmp_ge (tgt := 75) dX12_resumes_48 (by decide) (fun c48 => ?_) (fun c48 => ?_)
    · exact kk _ _
    · exact absurd c48 (nI_nlt (by omega) (by omega))
  | succ j ih =>
    intro M k x hV hk hk2 kk
    have hk3 : k < 100 := by omega
    refine z_iload5 dX12_resumes_45 ?_
    refine z_iload3 dX12_resumes_47 ?_
    refine z_icmp_ge (tgt := 75) dX12_resumes_48 (by decide) (fun c48 => absurd (nI_lt (by omega) (by omega)) c48) (fun c48 => ?_)
    show zS _ _ _ _ _ _ _ 51 _ _ _ _ _
    refine z_aload0 dX12_resumes_51 ?_
    refine z_getRs fl_RX12_59 (by decide) hW.o (hW.r 15 rfl) dX12_resumes_52 ?_
    refine z_iload5 dX12_resumes_55 ?_
    refine z_iload4 dX12_resumes_57 ?_
    refine zr_st hW (i := 15) rfl (by decide) (by decide) (rfl : nI k = nI k) (by omega) dX12_resumes_59 ?_
    refine z_aload0 dX12_resumes_60 ?_
    refine z_iload4 dX12_resumes_61 ?_
    refine z_iconst (v := 5) dX12_resumes_63 (by decide) ?_
    refine z_callVi zmd_X12_of rfl (by decide) zl_RX12_213 zin_X12_of zsel_X12_of (R_X12_of (d := d - 1) hW _ hV.1 _ (⟨by decide, by decide⟩ : iv 7 (5 : Int32))) hW.o rfl rfl (by omega) rfl dX12_resumes_64 ?_
    refine z_istore4 dX12_resumes_67 ?_
    refine z_iinc5 (y := 1) dX12_resumes_69 (by decide) ?_
    show zS _ _ _ _ _ _ _ 72 _ _ _ _ _
    refine z_goto (tgt := 45) dX12_resumes_72 (by decide) ?_
    show zS _ _ _ _ _ _ _ 45 _ _ _ _ _
    rw [nI_1]
    exact ih (zup M 16 k x) (k + 1) (pof M x 5) (pagV_16 hV.2) (by omega) (by omega) kk
set_option maxRecDepth 20000 in
theorem R_X12_resumes {l : Launch} {d : Nat} {D : zD} {b0 : Nat} {g : zG} {f M : zI} {o : Nat} (hW : RW b0 g o) (r v : Int32) (hV : presumesV M r) (hd : 3 ≤ d) : zM l d D b0 mX12_resumes [.ref o, .int r, .int v] g (rv o f M) (zEx (some (.int ((presumes M r v).1))) g (rv o f ((presumes M r v).2))) := by
  have hr1 := hV.1.1
  refine zM.start zmd_X12_resumes (Nat.le_of_ble_eq_true rfl) ⟨rfl, rfl, rfl, trivial⟩ [some (.ref o), some (.int r), some (.int v), none, none, none] rfl ?_
  refine z_aload0 dX12_resumes_0 ?_
  refine z_getRs fl_RX12_14 (by decide) hW.o (hW.r 1 rfl) dX12_resumes_1 ?_
  refine z_sipush (v := 3630) dX12_resumes_4 (by decide) ?_
  refine z_iconst (v := 3) dX12_resumes_7 (by decide) ?_
  refine z_iload1 dX12_resumes_8 ?_
  refine z_imul dX12_resumes_9 ?_
  refine z_iadd dX12_resumes_10 ?_
  refine z_iconst (v := 1) dX12_resumes_11 (by decide) ?_
  refine z_iadd dX12_resumes_12 ?_
  refine zr_ld hW (i := 1) rfl (by decide) (by decide) (ixA (ixA (ixC 3630) (ixM (ixC 3) hV.1.2)) (ixC 1)) (by omega) dX12_resumes_13 ?_
  refine z_istore3 dX12_resumes_14 ?_
  show zS _ _ _ _ _ _ _ 15 _ _ _ _ _
  refine z_aload0 dX12_resumes_15 ?_
  refine z_callVi zmd_X12_depth rfl (by decide) zl_RX12_216 zin_X12_depth zsel_X12_depth (R_X12_depth (d := d - 1) hW hV.2.1 (by omega)) hW.o rfl rfl (by omega) rfl dX12_resumes_16 ?_
  refine z_iload3 dX12_resumes_19 ?_
  refine z_iadd dX12_resumes_20 ?_
  refine z_bipush (v := 100) dX12_resumes_21 (by decide) ?_
  refine z_icmp_le (tgt := 28) dX12_resumes_23 (by decide) (fun c23 => ?_) (fun c23 => ?_)
  · show zS _ _ _ _ _ _ _ 28 _ _ _ _ _
    obtain ⟨m, hm, hy, hV1, hV2⟩ := hV.2.2 c23
    rw [show M 2 (3630 + 3 * tn r + 1) = nI m from hy]
    have hmt : tn (prMany M r) = m := by rw [hy]; exact tn_nI (by omega)
    refine z_aload0 dX12_resumes_28 ?_
    refine z_getRs fl_RX12_14 (by decide) hW.o (hW.r 1 rfl) dX12_resumes_29 ?_
    refine z_sipush (v := 3630) dX12_resumes_32 (by decide) ?_
    refine z_iconst (v := 3) dX12_resumes_35 (by decide) ?_
    refine z_iload1 dX12_resumes_36 ?_
    refine z_imul dX12_resumes_37 ?_
    refine z_iadd dX12_resumes_38 ?_
    refine zr_ld hW (i := 1) rfl (by decide) (by decide) (ixA (ixC 3630) (ixM (ixC 3) hV.1.2)) (by omega) dX12_resumes_39 ?_
    refine z_istore4 dX12_resumes_40 ?_
    refine z_iconst (v := 0) dX12_resumes_42 (by decide) ?_
    refine z_istore5 dX12_resumes_43 ?_
    show zS _ _ _ _ _ _ _ 45 _ _ _ _ _
    refine Rl_X12_resumes1 hW _ _ m hm hd _ m _ 0 _ hV1 (by omega) (by omega) (fun x4 x5 => ?_)
    refine z_iload3 dX12_resumes_75 ?_
    refine z_iconst (v := 1) dX12_resumes_76 (by decide) ?_
    refine z_isub dX12_resumes_77 ?_
    refine z_istore5 dX12_resumes_78 ?_
    refine Rl_X12_resumes2 hW _ _ _ _ hd _ m _ hV2 hm (fun x5 => ?_)
    show zS _ _ _ _ _ _ _ 155 _ _ _ _ _
    refine z_aload0 dX12_resumes_155 ?_
    refine z_getRs fl_RX12_14 (by decide) hW.o (hW.r 1 rfl) dX12_resumes_156 ?_
    refine z_sipush (v := 3630) dX12_resumes_159 (by decide) ?_
    refine z_iconst (v := 3) dX12_resumes_162 (by decide) ?_
    refine z_iload1 dX12_resumes_163 ?_
    refine z_imul dX12_resumes_164 ?_
    refine z_iadd dX12_resumes_165 ?_
    refine z_iconst (v := 2) dX12_resumes_166 (by decide) ?_
    refine z_iadd dX12_resumes_167 ?_
    refine z_dup2 dX12_resumes_168 ?_
    refine zr_ld hW (i := 1) rfl (by decide) (by decide) (ixA (ixA (ixC 3630) (ixM (ixC 3) hV.1.2)) (ixC 2)) (by omega) dX12_resumes_169 ?_
    show zS _ _ _ _ _ _ _ 170 _ _ _ _ _
    refine z_iconst (v := 1) dX12_resumes_170 (by decide) ?_
    refine z_iadd dX12_resumes_171 ?_
    refine zr_st hW (i := 1) rfl (by decide) (by decide) (ixA (ixA (ixC 3630) (ixM (ixC 3) hV.1.2)) (ixC 2)) (by omega) dX12_resumes_172 ?_
    refine z_aload0 dX12_resumes_173 ?_
    refine z_getRs fl_RX12_14 (by decide) hW.o (hW.r 1 rfl) dX12_resumes_174 ?_
    refine z_bipush (v := 12) dX12_resumes_177 (by decide) ?_
    refine z_dup2 dX12_resumes_179 ?_
    refine zr_ld hW (i := 1) rfl (by decide) (by decide) (ixC 12) (by decide) dX12_resumes_180 ?_
    refine z_iconst (v := 1) dX12_resumes_181 (by decide) ?_
    refine z_iadd dX12_resumes_182 ?_
    refine zr_st hW (i := 1) rfl (by decide) (by decide) (ixC 12) (by decide) dX12_resumes_183 ?_
    refine z_aload0 dX12_resumes_184 ?_
    show zS _ _ _ _ _ _ _ 185 _ _ _ _ _
    refine z_getRs fl_RX12_14 (by decide) hW.o (hW.r 1 rfl) dX12_resumes_185 ?_
    refine z_bipush (v := 13) dX12_resumes_188 (by decide) ?_
    refine z_dup2 dX12_resumes_190 ?_
    refine zr_ld hW (i := 1) rfl (by decide) (by decide) (ixC 13) (by decide) dX12_resumes_191 ?_
    refine z_aload0 dX12_resumes_192 ?_
    refine z_iload1 dX12_resumes_193 ?_
    refine z_callVi zmd_X12_uses rfl (by decide) zl_RX12_232 zin_X12_uses zsel_X12_uses (R_X12_uses (d := d - 1) hW _ hV.1) hW.o rfl rfl (by omega) rfl dX12_resumes_194 ?_
    refine z_iconst (v := 2) dX12_resumes_197 (by decide) ?_
    refine z_icmp_ne (tgt := 205) dX12_resumes_198 (by decide) (fun c198 => ?_) (fun c198 => ?_)
    · show zS _ _ _ _ _ _ _ 205 _ _ _ _ _
      refine z_iconst (v := 0) dX12_resumes_205 (by decide) ?_
      refine z_iadd dX12_resumes_206 ?_
      refine zr_st hW (i := 1) rfl (by decide) (by decide) (ixC 13) (by decide) dX12_resumes_207 ?_
      refine z_aload0 dX12_resumes_208 ?_
      refine z_iload2 dX12_resumes_209 ?_
      refine z_callVv zmd_X12_become rfl (by decide) zl_RX12_219 zin_X12_become zsel_X12_become (R_X12_become (d := d - 1) hW _) hW.o rfl rfl (by omega) rfl dX12_resumes_210 ?_
      refine z_iconst (v := 1) dX12_resumes_213 (by decide) ?_
      refine z_iret dX12_resumes_214 rfl ?_
      have e : presumes M r v = (1, presume M r v) := if_neg c23
      rw [e]
      refine ⟨rfl, rfl, ?_, rfl, rfl⟩
      unfold presume prs0
      rw [hmt]
      first | exact congrArg (fun z => rv o f (prsE (ppu m (pag m 0 (prTop M r) M)) r v z)) (if_pos (by assumption)).symm | exact congrArg (fun z => rv o f (prsE (ppu m (pag m 0 (prTop M r) M)) r v z)) (if_neg (by assumption)).symm
    · show zS _ _ _ _ _ _ _ 201 _ _ _ _ _
      refine z_iconst (v := 1) dX12_resumes_201 (by decide) ?_
      refine z_goto (tgt := 206) dX12_resumes_202 (by decide) ?_
      show zS _ _ _ _ _ _ _ 206 _ _ _ _ _
      refine z_iadd dX12_resumes_206 ?_
      refine zr_st hW (i := 1) rfl (by decide) (by decide) (ixC 13) (by decide) dX12_resumes_207 ?_
      refine z_aload0 dX12_resumes_208 ?_
      refine z_iload2 dX12_resumes_209 ?_
      refine z_callVv zmd_X12_become rfl (by decide) zl_RX12_219 zin_X12_become zsel_X12_become (R_X12_become (d := d - 1) hW _) hW.o rfl rfl (by omega) rfl dX12_resumes_210 ?_
      refine z_iconst (v := 1) dX12_resumes_213 (by decide) ?_
      refine z_iret dX12_resumes_214 rfl ?_
      have e : presumes M r v = (1, presume M r v) := if_neg c23
      rw [e]
      refine ⟨rfl, rfl, ?_, rfl, rfl⟩
      unfold presume prs0
      rw [hmt]
      first | exact congrArg (fun z => rv o f (prsE (ppu m (pag m 0 (prTop M r) M)) r v z)) (if_pos (by assumption)).symm | exact congrArg (fun z => rv o f (prsE (ppu m (pag m 0 (prTop M r) M)) r v z)) (if_neg (by assumption)).symm
  · show zS _ _ _ _ _ _ _ 26 _ _ _ _ _
    refine z_iconst (v := 0) dX12_resumes_26 (by decide) ?_
    refine z_iret dX12_resumes_27 rfl ?_
    have e : presumes M r v = (0, M) := if_pos c23
    rw [e]
    exact ⟨rfl, rfl, rfl, rfl, rfl⟩
/-- the search for a pending finalizer: n entries of its stack are in use -/
def ppdA (M : zI) (n : Nat) : zI :=
  let M1 := zup M 17 n (pof M (M 17 n) 5)
  zup M1 18 n (M1 18 n - 1)
def ppdB (M : zI) (n : Nat) (r : Int32) : zI :=
  let M3 := zup M 19 (tn r) (M 0 27)
  let M4 := zup M3 17 n (M3 2 (3630 + 3 * tn r))
  zup M4 18 n (M4 2 (3630 + 3 * tn r + 1))
def ppd9 (M : zI) (x : Int32) : Prop := pof M x 0 = 9 ∧ M 2 (7230 + tn (pof M x 4)) = 0
def ppd14 (M : zI) (x : Int32) : Prop := pof M x 0 = 14 ∧ puses M (pof M x 4) = 0 ∧ ¬ M 19 (tn (pof M x 4)) = M 0 27
def ppd : Nat → Nat → zI → Int32 × zI
  | 0, _, M => (-9, M)
  | _ + 1, 0, M => (-9, M)
  | k + 1, n + 1, M => if M 18 n = 0 then ppd k n M else
      if pof M (M 17 n) 0 = 9 ∧ M 2 (7230 + tn (pof M (M 17 n) 4)) = 0 then (M 17 n, ppdA M n)
      else if pof M (M 17 n) 0 = 14 ∧ puses M (pof M (M 17 n) 4) = 0 ∧ ¬ M 19 (tn (pof M (M 17 n) 4)) = M 0 27 then ppd k (n + 2) (ppdB (ppdA M n) (n + 1) (pof M (M 17 n) 4))
      else ppd k (n + 1) (ppdA M n)
def ppdV : Nat → Nat → zI → Prop
  | 0, _, _ => False
  | _ + 1, 0, _ => True
  | k + 1, n + 1, M => n < 1209 ∧ (M 18 n = 0 → ppdV k n M) ∧ (¬ M 18 n = 0 → iv 40000 (M 17 n) ∧ (pof M (M 17 n) 0 = 9 ∨ pof M (M 17 n) 0 = 14 → iv 1200 (pof M (M 17 n) 4)) ∧
      (¬ (pof M (M 17 n) 0 = 9 ∧ M 2 (7230 + tn (pof M (M 17 n) 4)) = 0) → (pof M (M 17 n) 0 = 14 ∧ puses M (pof M (M 17 n) 4) = 0 ∧ ¬ M 19 (tn (pof M (M 17 n) 4)) = M 0 27 → ppdV k (n + 2) (ppdB (ppdA M n) (n + 1) (pof M (M 17 n) 4))) ∧
        (¬ (pof M (M 17 n) 0 = 14 ∧ puses M (pof M (M 17 n) 4) = 0 ∧ ¬ M 19 (tn (pof M (M 17 n) 4)) = M 0 27) → ppdV k (n + 1) (ppdA M n))))
def ppend0 (M : zI) (r : Int32) : zI :=
  let M1 := zup M 0 27 (M 0 27 + 1)
  let M2 := zup M1 19 (tn r) (M1 0 27)
  let M3 := zup M2 17 0 (M2 2 (3630 + 3 * tn r))
  zup M3 18 0 (M3 2 (3630 + 3 * tn r + 1))
def ppendV (M : zI) (r : Int32) (k : Nat) : Prop := iv 1200 r ∧ ppdV k 1 (ppend0 M r)
def ppend (M : zI) (r : Int32) (k : Nat) : Int32 × zI := ppd k 1 (ppend0 M r)
set_option maxRecDepth 20000 in
theorem Rl_X12_pending {l : Launch} {d : Nat} {D : zD} {b0 : Nat} {g : zG} {f : zI} {o : Nat} (hW : RW b0 g o) (r : Int32) (hd : 1 ≤ d) : ∀ (k n : Nat) (M : zI) (y3 y4 : Option Value), ppdV k n M → zS l d D b0 mX12_pending 0 0 60 [some (.ref o), some (.int r), some (.int (nI n)), y3, y4] [] g (rv o f M) (zq D b0 (zEx (some (.int (ppd k n M).1)) g (rv o f (ppd k n M).2))) := by
  intro k
  induction k with
  | zero => intro n M y3 y4 hV; exact absurd hV id
  | succ k ih =>
    intro n M y3 y4 hV
    cases n with
    | zero =>
      refine z_iload2 dX12_pending_60 ?_
      refine z_if_le (tgt := 254) dX12_pending_61 (by decide) (fun c61 => ?_) (fun c61 => absurd c61 (by decide))
      refine z_bipush (v := (-9)) dX12_pending_254 (by decide) ?_
      refine z_iret dX12_pending_256 rfl ?_
      exact ⟨rfl, rfl, rfl, rfl, rfl⟩
    | succ n =>
      have hn := hV.1
      refine z_iload2 dX12_pending_60 ?_
      refine z_if_le (tgt := 254) dX12_pending_61 (by decide) (fun c61 => absurd (nI_lt (a := 0) (by omega) (by omega)) c61) (fun c61 => ?_)
      show zS _ _ _ _ _ _ _ 64 _ _ _ _ _
      refine z_aload0 dX12_pending_64 ?_
      refine z_getRs fl_RX12_65 (by decide) hW.o (hW.r 17 rfl) dX12_pending_65 ?_
      refine z_iload2 dX12_pending_68 ?_
      refine z_iconst (v := 1) dX12_pending_69 (by decide) ?_
      refine z_isub dX12_pending_70 ?_
      refine zr_ld hW (i := 17) rfl (by decide) (by decide) (nI_pred n) (by omega) dX12_pending_71 ?_
      refine z_if_ne (tgt := 81) dX12_pending_72 (by decide) (fun c72 => ?_) (fun c72 => ?_)
      · show zS _ _ _ _ _ _ _ 81 _ _ _ _ _
        have hx : iv 40000 (M 17 n) := (hV.2.2 c72).1
        refine z_aload0 dX12_pending_81 ?_
        refine z_getRs fl_RX12_62 (by decide) hW.o (hW.r 16 rfl) dX12_pending_82 ?_
        refine z_iload2 dX12_pending_85 ?_
        refine z_iconst (v := 1) dX12_pending_86 (by decide) ?_
        refine z_isub dX12_pending_87 ?_
        refine zr_ld hW (i := 16) rfl (by decide) (by decide) (nI_pred n) (by omega) dX12_pending_88 ?_
        refine z_istore3 dX12_pending_89 ?_
        refine z_aload0 dX12_pending_90 ?_
        refine z_getRs fl_RX12_62 (by decide) hW.o (hW.r 16 rfl) dX12_pending_91 ?_
        refine z_iload2 dX12_pending_94 ?_
        refine z_iconst (v := 1) dX12_pending_95 (by decide) ?_
        show zS _ _ _ _ _ _ _ 96 _ _ _ _ _
        refine z_isub dX12_pending_96 ?_
        refine z_aload0 dX12_pending_97 ?_
        refine z_iload3 dX12_pending_98 ?_
        refine z_iconst (v := 5) dX12_pending_99 (by decide) ?_
        refine z_callVi zmd_X12_of rfl (by decide) zl_RX12_213 zin_X12_of zsel_X12_of (R_X12_of (d := d - 1) hW _ hx _ (⟨by decide, by decide⟩ : iv 7 (5 : Int32))) hW.o rfl rfl (by omega) rfl dX12_pending_100 ?_
        refine zr_st hW (i := 16) rfl (by decide) (by decide) (nI_pred n) (by omega) dX12_pending_103 ?_
        refine z_aload0 dX12_pending_104 ?_
        refine z_getRs fl_RX12_65 (by decide) hW.o (hW.r 17 rfl) dX12_pending_105 ?_
        refine z_iload2 dX12_pending_108 ?_
        refine z_iconst (v := 1) dX12_pending_109 (by decide) ?_
        refine z_isub dX12_pending_110 ?_
        refine z_dup2 dX12_pending_111 ?_
        show zS _ _ _ _ _ _ _ 112 _ _ _ _ _
        refine zr_ld hW (i := 17) rfl (by decide) (by decide) (nI_pred n) (by omega) dX12_pending_112 ?_
        refine z_iconst (v := 1) dX12_pending_113 (by decide) ?_
        refine z_isub dX12_pending_114 ?_
        refine zr_st hW (i := 17) rfl (by decide) (by decide) (nI_pred n) (by omega) dX12_pending_115 ?_
        refine z_aload0 dX12_pending_116 ?_
        refine z_iload3 dX12_pending_117 ?_
        refine z_iconst (v := 0) dX12_pending_118 (by decide) ?_
        refine z_callVi zmd_X12_of rfl (by decide) zl_RX12_213 zin_X12_of zsel_X12_of (R_X12_of (d := d - 1) hW _ hx _ (⟨by decide, by decide⟩ : iv 7 (0 : Int32))) hW.o rfl rfl (by omega) rfl dX12_pending_119 ?_
        refine z_bipush (v := 9) dX12_pending_122 (by decide) ?_
        refine z_icmp_ne (tgt := 147) dX12_pending_124 (by decide) (fun c124 => ?_) (fun c124 => ?_)
        · show zS _ _ _ _ _ _ _ 147 _ _ _ _ _
          refine z_aload0 dX12_pending_147 ?_
          refine z_iload3 dX12_pending_148 ?_
          refine z_iconst (v := 0) dX12_pending_149 (by decide) ?_
          refine z_callVi zmd_X12_of rfl (by decide) zl_RX12_213 zin_X12_of zsel_X12_of (R_X12_of (d := d - 1) hW _ hx _ (⟨by decide, by decide⟩ : iv 7 (0 : Int32))) hW.o rfl rfl (by omega) rfl dX12_pending_150 ?_
          refine z_bipush (v := 14) dX12_pending_153 (by decide) ?_
          refine z_icmp_ne (tgt := 251) dX12_pending_155 (by decide) (fun c155 => ?_) (fun c155 => ?_)
          · show zS _ _ _ _ _ _ _ 251 _ _ _ _ _
            refine z_goto (tgt := 60) dX12_pending_251 (by decide) ?_
            show zS _ _ _ _ _ _ _ 60 _ _ _ _ _
            first
              | (have hq := (hV.2.2 c72).2.2 (fun q => absurd q.1 c124); rw [show ppd (k + 1) (n + 1) M = _ from (if_neg c72).trans ((if_neg (fun q => absurd q.1 c124)).trans (if_pos ⟨c155, c168, c186⟩)), nI_1]; exact ih (n + 1 + 1) (ppdB (ppdA M n) (n + 1) (pof M (M 17 n) 4)) (some (.int (M 17 n))) (some (.int (pof M (M 17 n) 4))) (hq.1 ⟨c155, c168, c186⟩))
              | (have hq := (hV.2.2 c72).2.2 (fun q => absurd q.1 c124); rw [show ppd (k + 1) (n + 1) M = _ from (if_neg c72).trans ((if_neg (fun q => absurd q.1 c124)).trans (if_neg (fun q => absurd q.1 c155)))]; exact ih (n + 1) (ppdA M n) (some (.int (M 17 n))) _ (hq.2 (fun q => absurd q.1 c155)))
              | (have hq := (hV.2.2 c72).2.2 (fun q => absurd q.1 c124); rw [show ppd (k + 1) (n + 1) M = _ from (if_neg c72).trans ((if_neg (fun q => absurd q.1 c124)).trans (if_neg (fun q => absurd q.2.1 c168)))]; exact ih (n + 1) (ppdA M n) (some (.int (M 17 n))) _ (hq.2 (fun q => absurd q.2.1 c168)))
              | (have hq := (hV.2.2 c72).2.2 (fun q => absurd q.1 c124); rw [show ppd (k + 1) (n + 1) M = _ from (if_neg c72).trans ((if_neg (fun q => absurd q.1 c124)).trans (if_neg (fun q => absurd c186 q.2.2)))]; exact ih (n + 1) (ppdA M n) (some (.int (M 17 n))) _ (hq.2 (fun q => absurd c186 q.2.2)))
              | (have hq := (hV.2.2 c72).2.2 (fun q => absurd q.2 c142); rw [show ppd (k + 1) (n + 1) M = _ from (if_neg c72).trans ((if_neg (fun q => absurd q.2 c142)).trans (if_pos ⟨c155, c168, c186⟩)), nI_1]; exact ih (n + 1 + 1) (ppdB (ppdA M n) (n + 1) (pof M (M 17 n) 4)) (some (.int (M 17 n))) (some (.int (pof M (M 17 n) 4))) (hq.1 ⟨c155, c168, c186⟩))
              | (have hq := (hV.2.2 c72).2.2 (fun q => absurd q.2 c142); rw [show ppd (k + 1) (n + 1) M = _ from (if_neg c72).trans ((if_neg (fun q => absurd q.2 c142)).trans (if_neg (fun q => absurd q.1 c155)))]; exact ih (n + 1) (ppdA M n) (some (.int (M 17 n))) _ (hq.2 (fun q => absurd q.1 c155)))
              | (have hq := (hV.2.2 c72).2.2 (fun q => absurd q.2 c142); rw [show ppd (k + 1) (n + 1) M = _ from (if_neg c72).trans ((if_neg (fun q => absurd q.2 c142)).trans (if_neg (fun q => absurd q.2.1 c168)))]; exact ih (n + 1) (ppdA M n) (some (.int (M 17 n))) _ (hq.2 (fun q => absurd q.2.1 c168)))
              | (have hq := (hV.2.2 c72).2.2 (fun q => absurd q.2 c142); rw [show ppd (k + 1) (n + 1) M = _ from (if_neg c72).trans ((if_neg (fun q => absurd q.2 c142)).trans (if_neg (fun q => absurd c186 q.2.2)))]; exact ih (n + 1) (ppdA M n) (some (.int (M 17 n))) _ (hq.2 (fun q => absurd c186 q.2.2)))
          · show zS _ _ _ _ _ _ _ 158 _ _ _ _ _
            refine z_aload0 dX12_pending_158 ?_
            refine z_aload0 dX12_pending_159 ?_
            refine z_iload3 dX12_pending_160 ?_
            refine z_iconst (v := 4) dX12_pending_161 (by decide) ?_
            refine z_callVi zmd_X12_of rfl (by decide) zl_RX12_213 zin_X12_of zsel_X12_of (R_X12_of (d := d - 1) hW _ hx _ (⟨by decide, by decide⟩ : iv 7 (4 : Int32))) hW.o rfl rfl (by omega) rfl dX12_pending_162 ?_
            refine z_callVi zmd_X12_uses rfl (by decide) zl_RX12_232 zin_X12_uses zsel_X12_uses (R_X12_uses (d := d - 1) hW _ ((hV.2.2 c72).2.1 (Or.inr c155))) hW.o rfl rfl (by omega) rfl dX12_pending_165 ?_
            refine z_if_ne (tgt := 251) dX12_pending_168 (by decide) (fun c168 => ?_) (fun c168 => ?_)
            · show zS _ _ _ _ _ _ _ 251 _ _ _ _ _
              refine z_goto (tgt := 60) dX12_pending_251 (by decide) ?_
              show zS _ _ _ _ _ _ _ 60 _ _ _ _ _
              first
                | (have hq := (hV.2.2 c72).2.2 (fun q => absurd q.1 c124); rw [show ppd (k + 1) (n + 1) M = _ from (if_neg c72).trans ((if_neg (fun q => absurd q.1 c124)).trans (if_pos ⟨c155, c168, c186⟩)), nI_1]; exact ih (n + 1 + 1) (ppdB (ppdA M n) (n + 1) (pof M (M 17 n) 4)) (some (.int (M 17 n))) (some (.int (pof M (M 17 n) 4))) (hq.1 ⟨c155, c168, c186⟩))
                | (have hq := (hV.2.2 c72).2.2 (fun q => absurd q.1 c124); rw [show ppd (k + 1) (n + 1) M = _ from (if_neg c72).trans ((if_neg (fun q => absurd q.1 c124)).trans (if_neg (fun q => absurd q.1 c155)))]; exact ih (n + 1) (ppdA M n) (some (.int (M 17 n))) _ (hq.2 (fun q => absurd q.1 c155)))
                | (have hq := (hV.2.2 c72).2.2 (fun q => absurd q.1 c124); rw [show ppd (k + 1) (n + 1) M = _ from (if_neg c72).trans ((if_neg (fun q => absurd q.1 c124)).trans (if_neg (fun q => absurd q.2.1 c168)))]; exact ih (n + 1) (ppdA M n) (some (.int (M 17 n))) _ (hq.2 (fun q => absurd q.2.1 c168)))
                | (have hq := (hV.2.2 c72).2.2 (fun q => absurd q.1 c124); rw [show ppd (k + 1) (n + 1) M = _ from (if_neg c72).trans ((if_neg (fun q => absurd q.1 c124)).trans (if_neg (fun q => absurd c186 q.2.2)))]; exact ih (n + 1) (ppdA M n) (some (.int (M 17 n))) _ (hq.2 (fun q => absurd c186 q.2.2)))
                | (have hq := (hV.2.2 c72).2.2 (fun q => absurd q.2 c142); rw [show ppd (k + 1) (n + 1) M = _ from (if_neg c72).trans ((if_neg (fun q => absurd q.2 c142)).trans (if_pos ⟨c155, c168, c186⟩)), nI_1]; exact ih (n + 1 + 1) (ppdB (ppdA M n) (n + 1) (pof M (M 17 n) 4)) (some (.int (M 17 n))) (some (.int (pof M (M 17 n) 4))) (hq.1 ⟨c155, c168, c186⟩))
                | (have hq := (hV.2.2 c72).2.2 (fun q => absurd q.2 c142); rw [show ppd (k + 1) (n + 1) M = _ from (if_neg c72).trans ((if_neg (fun q => absurd q.2 c142)).trans (if_neg (fun q => absurd q.1 c155)))]; exact ih (n + 1) (ppdA M n) (some (.int (M 17 n))) _ (hq.2 (fun q => absurd q.1 c155)))
                | (have hq := (hV.2.2 c72).2.2 (fun q => absurd q.2 c142); rw [show ppd (k + 1) (n + 1) M = _ from (if_neg c72).trans ((if_neg (fun q => absurd q.2 c142)).trans (if_neg (fun q => absurd q.2.1 c168)))]; exact ih (n + 1) (ppdA M n) (some (.int (M 17 n))) _ (hq.2 (fun q => absurd q.2.1 c168)))
                | (have hq := (hV.2.2 c72).2.2 (fun q => absurd q.2 c142); rw [show ppd (k + 1) (n + 1) M = _ from (if_neg c72).trans ((if_neg (fun q => absurd q.2 c142)).trans (if_neg (fun q => absurd c186 q.2.2)))]; exact ih (n + 1) (ppdA M n) (some (.int (M 17 n))) _ (hq.2 (fun q => absurd c186 q.2.2)))
            · show zS _ _ _ _ _ _ _ 171 _ _ _ _ _
              refine z_aload0 dX12_pending_171 ?_
              refine z_getRs fl_RX12_68 (by decide) hW.o (hW.r 18 rfl) dX12_pending_172 ?_
              refine z_aload0 dX12_pending_175 ?_
              refine z_iload3 dX12_pending_176 ?_
              refine z_iconst (v := 4) dX12_pending_177 (by decide) ?_
              have h4 := ((hV.2.2 c72).2.1 (Or.inr c155)).1
              refine z_callVi zmd_X12_of rfl (by decide) zl_RX12_213 zin_X12_of zsel_X12_of (R_X12_of (d := d - 1) hW _ hx _ (⟨by decide, by decide⟩ : iv 7 (4 : Int32))) hW.o rfl rfl (by omega) rfl dX12_pending_178 ?_
              refine zr_ld hW (i := 18) rfl (by decide) (by decide) ((hV.2.2 c72).2.1 (Or.inr c155)).2 (by omega) dX12_pending_181 ?_
              refine z_aload0 dX12_pending_182 ?_
              refine zr_getI fl_RX12_235 hW dX12_pending_183 ?_
              refine z_icmp_eq (tgt := 251) dX12_pending_186 (by decide) (fun c186 => ?_) (fun c186 => ?_)
              · show zS _ _ _ _ _ _ _ 251 _ _ _ _ _
                refine z_goto (tgt := 60) dX12_pending_251 (by decide) ?_
                show zS _ _ _ _ _ _ _ 60 _ _ _ _ _
                first
                  | (have hq := (hV.2.2 c72).2.2 (fun q => absurd q.1 c124); rw [show ppd (k + 1) (n + 1) M = _ from (if_neg c72).trans ((if_neg (fun q => absurd q.1 c124)).trans (if_pos ⟨c155, c168, c186⟩)), nI_1]; exact ih (n + 1 + 1) (ppdB (ppdA M n) (n + 1) (pof M (M 17 n) 4)) (some (.int (M 17 n))) (some (.int (pof M (M 17 n) 4))) (hq.1 ⟨c155, c168, c186⟩))
                  | (have hq := (hV.2.2 c72).2.2 (fun q => absurd q.1 c124); rw [show ppd (k + 1) (n + 1) M = _ from (if_neg c72).trans ((if_neg (fun q => absurd q.1 c124)).trans (if_neg (fun q => absurd q.1 c155)))]; exact ih (n + 1) (ppdA M n) (some (.int (M 17 n))) _ (hq.2 (fun q => absurd q.1 c155)))
                  | (have hq := (hV.2.2 c72).2.2 (fun q => absurd q.1 c124); rw [show ppd (k + 1) (n + 1) M = _ from (if_neg c72).trans ((if_neg (fun q => absurd q.1 c124)).trans (if_neg (fun q => absurd q.2.1 c168)))]; exact ih (n + 1) (ppdA M n) (some (.int (M 17 n))) _ (hq.2 (fun q => absurd q.2.1 c168)))
                  | (have hq := (hV.2.2 c72).2.2 (fun q => absurd q.1 c124); rw [show ppd (k + 1) (n + 1) M = _ from (if_neg c72).trans ((if_neg (fun q => absurd q.1 c124)).trans (if_neg (fun q => absurd c186 q.2.2)))]; exact ih (n + 1) (ppdA M n) (some (.int (M 17 n))) _ (hq.2 (fun q => absurd c186 q.2.2)))
                  | (have hq := (hV.2.2 c72).2.2 (fun q => absurd q.2 c142); rw [show ppd (k + 1) (n + 1) M = _ from (if_neg c72).trans ((if_neg (fun q => absurd q.2 c142)).trans (if_pos ⟨c155, c168, c186⟩)), nI_1]; exact ih (n + 1 + 1) (ppdB (ppdA M n) (n + 1) (pof M (M 17 n) 4)) (some (.int (M 17 n))) (some (.int (pof M (M 17 n) 4))) (hq.1 ⟨c155, c168, c186⟩))
                  | (have hq := (hV.2.2 c72).2.2 (fun q => absurd q.2 c142); rw [show ppd (k + 1) (n + 1) M = _ from (if_neg c72).trans ((if_neg (fun q => absurd q.2 c142)).trans (if_neg (fun q => absurd q.1 c155)))]; exact ih (n + 1) (ppdA M n) (some (.int (M 17 n))) _ (hq.2 (fun q => absurd q.1 c155)))
                  | (have hq := (hV.2.2 c72).2.2 (fun q => absurd q.2 c142); rw [show ppd (k + 1) (n + 1) M = _ from (if_neg c72).trans ((if_neg (fun q => absurd q.2 c142)).trans (if_neg (fun q => absurd q.2.1 c168)))]; exact ih (n + 1) (ppdA M n) (some (.int (M 17 n))) _ (hq.2 (fun q => absurd q.2.1 c168)))
                  | (have hq := (hV.2.2 c72).2.2 (fun q => absurd q.2 c142); rw [show ppd (k + 1) (n + 1) M = _ from (if_neg c72).trans ((if_neg (fun q => absurd q.2 c142)).trans (if_neg (fun q => absurd c186 q.2.2)))]; exact ih (n + 1) (ppdA M n) (some (.int (M 17 n))) _ (hq.2 (fun q => absurd c186 q.2.2)))
              · show zS _ _ _ _ _ _ _ 189 _ _ _ _ _
                refine z_aload0 dX12_pending_189 ?_
                refine z_iload3 dX12_pending_190 ?_
                refine z_iconst (v := 4) dX12_pending_191 (by decide) ?_
                refine z_callVi zmd_X12_of rfl (by decide) zl_RX12_213 zin_X12_of zsel_X12_of (R_X12_of (d := d - 1) hW _ hx _ (⟨by decide, by decide⟩ : iv 7 (4 : Int32))) hW.o rfl rfl (by omega) rfl dX12_pending_192 ?_
                refine z_istore4 dX12_pending_195 ?_
                refine z_aload0 dX12_pending_197 ?_
                refine z_getRs fl_RX12_68 (by decide) hW.o (hW.r 18 rfl) dX12_pending_198 ?_
                refine z_iload4 dX12_pending_201 ?_
                refine z_aload0 dX12_pending_203 ?_
                refine zr_getI fl_RX12_235 hW dX12_pending_204 ?_
                refine zr_st hW (i := 18) rfl (by decide) (by decide) ((hV.2.2 c72).2.1 (Or.inr c155)).2 (by omega) dX12_pending_207 ?_
                show zS _ _ _ _ _ _ _ 208 _ _ _ _ _
                refine z_aload0 dX12_pending_208 ?_
                refine z_getRs fl_RX12_62 (by decide) hW.o (hW.r 16 rfl) dX12_pending_209 ?_
                refine z_iload2 dX12_pending_212 ?_
                refine z_aload0 dX12_pending_213 ?_
                refine z_getRs fl_RX12_14 (by decide) hW.o (hW.r 1 rfl) dX12_pending_214 ?_
                refine z_sipush (v := 3630) dX12_pending_217 (by decide) ?_
                refine z_iconst (v := 3) dX12_pending_220 (by decide) ?_
                refine z_iload4 dX12_pending_221 ?_
                refine z_imul dX12_pending_223 ?_
                refine z_iadd dX12_pending_224 ?_
                refine zr_ld hW (i := 1) rfl (by decide) (by decide) (ixA (ixC 3630) (ixM (ixC 3) ((hV.2.2 c72).2.1 (Or.inr c155)).2)) (by omega) dX12_pending_225 ?_
                refine zr_st hW (i := 16) rfl (by decide) (by decide) (rfl : nI (n + 1) = nI (n + 1)) (by omega) dX12_pending_226 ?_
                show zS _ _ _ _ _ _ _ 227 _ _ _ _ _
                refine z_aload0 dX12_pending_227 ?_
                refine z_getRs fl_RX12_65 (by decide) hW.o (hW.r 17 rfl) dX12_pending_228 ?_
                refine z_iload2 dX12_pending_231 ?_
                refine z_aload0 dX12_pending_232 ?_
                refine z_getRs fl_RX12_14 (by decide) hW.o (hW.r 1 rfl) dX12_pending_233 ?_
                refine z_sipush (v := 3630) dX12_pending_236 (by decide) ?_
                refine z_iconst (v := 3) dX12_pending_239 (by decide) ?_
                refine z_iload4 dX12_pending_240 ?_
                refine z_imul dX12_pending_242 ?_
                refine z_iadd dX12_pending_243 ?_
                refine z_iconst (v := 1) dX12_pending_244 (by decide) ?_
                refine z_iadd dX12_pending_245 ?_
                show zS _ _ _ _ _ _ _ 246 _ _ _ _ _
                refine zr_ld hW (i := 1) rfl (by decide) (by decide) (ixA (ixA (ixC 3630) (ixM (ixC 3) ((hV.2.2 c72).2.1 (Or.inr c155)).2)) (ixC 1)) (by omega) dX12_pending_246 ?_
                refine zr_st hW (i := 17) rfl (by decide) (by decide) (rfl : nI (n + 1) = nI (n + 1)) (by omega) dX12_pending_247 ?_
                refine z_iinc2 (y := 1) dX12_pending_248 (by decide) ?_
                refine z_goto (tgt := 60) dX12_pending_251 (by decide) ?_
                show zS _ _ _ _ _ _ _ 60 _ _ _ _ _
                first
                  | (have hq := (hV.2.2 c72).2.2 (fun q => absurd q.1 c124); rw [show ppd (k + 1) (n + 1) M = _ from (if_neg c72).trans ((if_neg (fun q => absurd q.1 c124)).trans (if_pos ⟨c155, c168, c186⟩)), nI_1]; exact ih (n + 1 + 1) (ppdB (ppdA M n) (n + 1) (pof M (M 17 n) 4)) (some (.int (M 17 n))) (some (.int (pof M (M 17 n) 4))) (hq.1 ⟨c155, c168, c186⟩))
                  | (have hq := (hV.2.2 c72).2.2 (fun q => absurd q.1 c124); rw [show ppd (k + 1) (n + 1) M = _ from (if_neg c72).trans ((if_neg (fun q => absurd q.1 c124)).trans (if_neg (fun q => absurd q.1 c155)))]; exact ih (n + 1) (ppdA M n) (some (.int (M 17 n))) _ (hq.2 (fun q => absurd q.1 c155)))
                  | (have hq := (hV.2.2 c72).2.2 (fun q => absurd q.1 c124); rw [show ppd (k + 1) (n + 1) M = _ from (if_neg c72).trans ((if_neg (fun q => absurd q.1 c124)).trans (if_neg (fun q => absurd q.2.1 c168)))]; exact ih (n + 1) (ppdA M n) (some (.int (M 17 n))) _ (hq.2 (fun q => absurd q.2.1 c168)))
                  | (have hq := (hV.2.2 c72).2.2 (fun q => absurd q.1 c124); rw [show ppd (k + 1) (n + 1) M = _ from (if_neg c72).trans ((if_neg (fun q => absurd q.1 c124)).trans (if_neg (fun q => absurd c186 q.2.2)))]; exact ih (n + 1) (ppdA M n) (some (.int (M 17 n))) _ (hq.2 (fun q => absurd c186 q.2.2)))
                  | (have hq := (hV.2.2 c72).2.2 (fun q => absurd q.2 c142); rw [show ppd (k + 1) (n + 1) M = _ from (if_neg c72).trans ((if_neg (fun q => absurd q.2 c142)).trans (if_pos ⟨c155, c168, c186⟩)), nI_1]; exact ih (n + 1 + 1) (ppdB (ppdA M n) (n + 1) (pof M (M 17 n) 4)) (some (.int (M 17 n))) (some (.int (pof M (M 17 n) 4))) (hq.1 ⟨c155, c168, c186⟩))
                  | (have hq := (hV.2.2 c72).2.2 (fun q => absurd q.2 c142); rw [show ppd (k + 1) (n + 1) M = _ from (if_neg c72).trans ((if_neg (fun q => absurd q.2 c142)).trans (if_neg (fun q => absurd q.1 c155)))]; exact ih (n + 1) (ppdA M n) (some (.int (M 17 n))) _ (hq.2 (fun q => absurd q.1 c155)))
                  | (have hq := (hV.2.2 c72).2.2 (fun q => absurd q.2 c142); rw [show ppd (k + 1) (n + 1) M = _ from (if_neg c72).trans ((if_neg (fun q => absurd q.2 c142)).trans (if_neg (fun q => absurd q.2.1 c168)))]; exact ih (n + 1) (ppdA M n) (some (.int (M 17 n))) _ (hq.2 (fun q => absurd q.2.1 c168)))
                  | (have hq := (hV.2.2 c72).2.2 (fun q => absurd q.2 c142); rw [show ppd (k + 1) (n + 1) M = _ from (if_neg c72).trans ((if_neg (fun q => absurd q.2 c142)).trans (if_neg (fun q => absurd c186 q.2.2)))]; exact ih (n + 1) (ppdA M n) (some (.int (M 17 n))) _ (hq.2 (fun q => absurd c186 q.2.2)))
        · show zS _ _ _ _ _ _ _ 127 _ _ _ _ _
          refine z_aload0 dX12_pending_127 ?_
          refine z_getRs fl_RX12_14 (by decide) hW.o (hW.r 1 rfl) dX12_pending_128 ?_
          refine z_sipush (v := 7230) dX12_pending_131 (by decide) ?_
          refine z_aload0 dX12_pending_134 ?_
          refine z_iload3 dX12_pending_135 ?_
          refine z_iconst (v := 4) dX12_pending_136 (by decide) ?_
          have h4 := ((hV.2.2 c72).2.1 (Or.inl c124)).1
          refine z_callVi zmd_X12_of rfl (by decide) zl_RX12_213 zin_X12_of zsel_X12_of (R_X12_of (d := d - 1) hW _ hx _ (⟨by decide, by decide⟩ : iv 7 (4 : Int32))) hW.o rfl rfl (by omega) rfl dX12_pending_137 ?_
          refine z_iadd dX12_pending_140 ?_
          refine zr_ld hW (i := 1) rfl (by decide) (by decide) (ixA (ixC 7230) ((hV.2.2 c72).2.1 (Or.inl c124)).2) (by omega) dX12_pending_141 ?_
          refine z_if_ne (tgt := 147) dX12_pending_142 (by decide) (fun c142 => ?_) (fun c142 => ?_)
          · show zS _ _ _ _ _ _ _ 147 _ _ _ _ _
            refine z_aload0 dX12_pending_147 ?_
            refine z_iload3 dX12_pending_148 ?_
            refine z_iconst (v := 0) dX12_pending_149 (by decide) ?_
            refine z_callVi zmd_X12_of rfl (by decide) zl_RX12_213 zin_X12_of zsel_X12_of (R_X12_of (d := d - 1) hW _ hx _ (⟨by decide, by decide⟩ : iv 7 (0 : Int32))) hW.o rfl rfl (by omega) rfl dX12_pending_150 ?_
            refine z_bipush (v := 14) dX12_pending_153 (by decide) ?_
            refine z_icmp_ne (tgt := 251) dX12_pending_155 (by decide) (fun c155 => ?_) (fun c155 => ?_)
            · show zS _ _ _ _ _ _ _ 251 _ _ _ _ _
              refine z_goto (tgt := 60) dX12_pending_251 (by decide) ?_
              show zS _ _ _ _ _ _ _ 60 _ _ _ _ _
              first
                | (have hq := (hV.2.2 c72).2.2 (fun q => absurd q.1 c124); rw [show ppd (k + 1) (n + 1) M = _ from (if_neg c72).trans ((if_neg (fun q => absurd q.1 c124)).trans (if_pos ⟨c155, c168, c186⟩)), nI_1]; exact ih (n + 1 + 1) (ppdB (ppdA M n) (n + 1) (pof M (M 17 n) 4)) (some (.int (M 17 n))) (some (.int (pof M (M 17 n) 4))) (hq.1 ⟨c155, c168, c186⟩))
                | (have hq := (hV.2.2 c72).2.2 (fun q => absurd q.1 c124); rw [show ppd (k + 1) (n + 1) M = _ from (if_neg c72).trans ((if_neg (fun q => absurd q.1 c124)).trans (if_neg (fun q => absurd q.1 c155)))]; exact ih (n + 1) (ppdA M n) (some (.int (M 17 n))) _ (hq.2 (fun q => absurd q.1 c155)))
                | (have hq := (hV.2.2 c72).2.2 (fun q => absurd q.1 c124); rw [show ppd (k + 1) (n + 1) M = _ from (if_neg c72).trans ((if_neg (fun q => absurd q.1 c124)).trans (if_neg (fun q => absurd q.2.1 c168)))]; exact ih (n + 1) (ppdA M n) (some (.int (M 17 n))) _ (hq.2 (fun q => absurd q.2.1 c168)))
                | (have hq := (hV.2.2 c72).2.2 (fun q => absurd q.1 c124); rw [show ppd (k + 1) (n + 1) M = _ from (if_neg c72).trans ((if_neg (fun q => absurd q.1 c124)).trans (if_neg (fun q => absurd c186 q.2.2)))]; exact ih (n + 1) (ppdA M n) (some (.int (M 17 n))) _ (hq.2 (fun q => absurd c186 q.2.2)))
                | (have hq := (hV.2.2 c72).2.2 (fun q => absurd q.2 c142); rw [show ppd (k + 1) (n + 1) M = _ from (if_neg c72).trans ((if_neg (fun q => absurd q.2 c142)).trans (if_pos ⟨c155, c168, c186⟩)), nI_1]; exact ih (n + 1 + 1) (ppdB (ppdA M n) (n + 1) (pof M (M 17 n) 4)) (some (.int (M 17 n))) (some (.int (pof M (M 17 n) 4))) (hq.1 ⟨c155, c168, c186⟩))
                | (have hq := (hV.2.2 c72).2.2 (fun q => absurd q.2 c142); rw [show ppd (k + 1) (n + 1) M = _ from (if_neg c72).trans ((if_neg (fun q => absurd q.2 c142)).trans (if_neg (fun q => absurd q.1 c155)))]; exact ih (n + 1) (ppdA M n) (some (.int (M 17 n))) _ (hq.2 (fun q => absurd q.1 c155)))
                | (have hq := (hV.2.2 c72).2.2 (fun q => absurd q.2 c142); rw [show ppd (k + 1) (n + 1) M = _ from (if_neg c72).trans ((if_neg (fun q => absurd q.2 c142)).trans (if_neg (fun q => absurd q.2.1 c168)))]; exact ih (n + 1) (ppdA M n) (some (.int (M 17 n))) _ (hq.2 (fun q => absurd q.2.1 c168)))
                | (have hq := (hV.2.2 c72).2.2 (fun q => absurd q.2 c142); rw [show ppd (k + 1) (n + 1) M = _ from (if_neg c72).trans ((if_neg (fun q => absurd q.2 c142)).trans (if_neg (fun q => absurd c186 q.2.2)))]; exact ih (n + 1) (ppdA M n) (some (.int (M 17 n))) _ (hq.2 (fun q => absurd c186 q.2.2)))
            · show zS _ _ _ _ _ _ _ 158 _ _ _ _ _
              refine z_aload0 dX12_pending_158 ?_
              refine z_aload0 dX12_pending_159 ?_
              refine z_iload3 dX12_pending_160 ?_
              refine z_iconst (v := 4) dX12_pending_161 (by decide) ?_
              refine z_callVi zmd_X12_of rfl (by decide) zl_RX12_213 zin_X12_of zsel_X12_of (R_X12_of (d := d - 1) hW _ hx _ (⟨by decide, by decide⟩ : iv 7 (4 : Int32))) hW.o rfl rfl (by omega) rfl dX12_pending_162 ?_
              refine z_callVi zmd_X12_uses rfl (by decide) zl_RX12_232 zin_X12_uses zsel_X12_uses (R_X12_uses (d := d - 1) hW _ ((hV.2.2 c72).2.1 (Or.inr c155))) hW.o rfl rfl (by omega) rfl dX12_pending_165 ?_
              refine z_if_ne (tgt := 251) dX12_pending_168 (by decide) (fun c168 => ?_) (fun c168 => ?_)
              · show zS _ _ _ _ _ _ _ 251 _ _ _ _ _
                refine z_goto (tgt := 60) dX12_pending_251 (by decide) ?_
                show zS _ _ _ _ _ _ _ 60 _ _ _ _ _
                first
                  | (have hq := (hV.2.2 c72).2.2 (fun q => absurd q.1 c124); rw [show ppd (k + 1) (n + 1) M = _ from (if_neg c72).trans ((if_neg (fun q => absurd q.1 c124)).trans (if_pos ⟨c155, c168, c186⟩)), nI_1]; exact ih (n + 1 + 1) (ppdB (ppdA M n) (n + 1) (pof M (M 17 n) 4)) (some (.int (M 17 n))) (some (.int (pof M (M 17 n) 4))) (hq.1 ⟨c155, c168, c186⟩))
                  | (have hq := (hV.2.2 c72).2.2 (fun q => absurd q.1 c124); rw [show ppd (k + 1) (n + 1) M = _ from (if_neg c72).trans ((if_neg (fun q => absurd q.1 c124)).trans (if_neg (fun q => absurd q.1 c155)))]; exact ih (n + 1) (ppdA M n) (some (.int (M 17 n))) _ (hq.2 (fun q => absurd q.1 c155)))
                  | (have hq := (hV.2.2 c72).2.2 (fun q => absurd q.1 c124); rw [show ppd (k + 1) (n + 1) M = _ from (if_neg c72).trans ((if_neg (fun q => absurd q.1 c124)).trans (if_neg (fun q => absurd q.2.1 c168)))]; exact ih (n + 1) (ppdA M n) (some (.int (M 17 n))) _ (hq.2 (fun q => absurd q.2.1 c168)))
                  | (have hq := (hV.2.2 c72).2.2 (fun q => absurd q.1 c124); rw [show ppd (k + 1) (n + 1) M = _ from (if_neg c72).trans ((if_neg (fun q => absurd q.1 c124)).trans (if_neg (fun q => absurd c186 q.2.2)))]; exact ih (n + 1) (ppdA M n) (some (.int (M 17 n))) _ (hq.2 (fun q => absurd c186 q.2.2)))
                  | (have hq := (hV.2.2 c72).2.2 (fun q => absurd q.2 c142); rw [show ppd (k + 1) (n + 1) M = _ from (if_neg c72).trans ((if_neg (fun q => absurd q.2 c142)).trans (if_pos ⟨c155, c168, c186⟩)), nI_1]; exact ih (n + 1 + 1) (ppdB (ppdA M n) (n + 1) (pof M (M 17 n) 4)) (some (.int (M 17 n))) (some (.int (pof M (M 17 n) 4))) (hq.1 ⟨c155, c168, c186⟩))
                  | (have hq := (hV.2.2 c72).2.2 (fun q => absurd q.2 c142); rw [show ppd (k + 1) (n + 1) M = _ from (if_neg c72).trans ((if_neg (fun q => absurd q.2 c142)).trans (if_neg (fun q => absurd q.1 c155)))]; exact ih (n + 1) (ppdA M n) (some (.int (M 17 n))) _ (hq.2 (fun q => absurd q.1 c155)))
                  | (have hq := (hV.2.2 c72).2.2 (fun q => absurd q.2 c142); rw [show ppd (k + 1) (n + 1) M = _ from (if_neg c72).trans ((if_neg (fun q => absurd q.2 c142)).trans (if_neg (fun q => absurd q.2.1 c168)))]; exact ih (n + 1) (ppdA M n) (some (.int (M 17 n))) _ (hq.2 (fun q => absurd q.2.1 c168)))
                  | (have hq := (hV.2.2 c72).2.2 (fun q => absurd q.2 c142); rw [show ppd (k + 1) (n + 1) M = _ from (if_neg c72).trans ((if_neg (fun q => absurd q.2 c142)).trans (if_neg (fun q => absurd c186 q.2.2)))]; exact ih (n + 1) (ppdA M n) (some (.int (M 17 n))) _ (hq.2 (fun q => absurd c186 q.2.2)))
              · show zS _ _ _ _ _ _ _ 171 _ _ _ _ _
                refine z_aload0 dX12_pending_171 ?_
                refine z_getRs fl_RX12_68 (by decide) hW.o (hW.r 18 rfl) dX12_pending_172 ?_
                refine z_aload0 dX12_pending_175 ?_
                refine z_iload3 dX12_pending_176 ?_
                refine z_iconst (v := 4) dX12_pending_177 (by decide) ?_
                have h4 := ((hV.2.2 c72).2.1 (Or.inr c155)).1
                refine z_callVi zmd_X12_of rfl (by decide) zl_RX12_213 zin_X12_of zsel_X12_of (R_X12_of (d := d - 1) hW _ hx _ (⟨by decide, by decide⟩ : iv 7 (4 : Int32))) hW.o rfl rfl (by omega) rfl dX12_pending_178 ?_
                refine zr_ld hW (i := 18) rfl (by decide) (by decide) ((hV.2.2 c72).2.1 (Or.inr c155)).2 (by omega) dX12_pending_181 ?_
                refine z_aload0 dX12_pending_182 ?_
                refine zr_getI fl_RX12_235 hW dX12_pending_183 ?_
                refine z_icmp_eq (tgt := 251) dX12_pending_186 (by decide) (fun c186 => ?_) (fun c186 => ?_)
                · show zS _ _ _ _ _ _ _ 251 _ _ _ _ _
                  refine z_goto (tgt := 60) dX12_pending_251 (by decide) ?_
                  show zS _ _ _ _ _ _ _ 60 _ _ _ _ _
                  first
                    | (have hq := (hV.2.2 c72).2.2 (fun q => absurd q.1 c124); rw [show ppd (k + 1) (n + 1) M = _ from (if_neg c72).trans ((if_neg (fun q => absurd q.1 c124)).trans (if_pos ⟨c155, c168, c186⟩)), nI_1]; exact ih (n + 1 + 1) (ppdB (ppdA M n) (n + 1) (pof M (M 17 n) 4)) (some (.int (M 17 n))) (some (.int (pof M (M 17 n) 4))) (hq.1 ⟨c155, c168, c186⟩))
                    | (have hq := (hV.2.2 c72).2.2 (fun q => absurd q.1 c124); rw [show ppd (k + 1) (n + 1) M = _ from (if_neg c72).trans ((if_neg (fun q => absurd q.1 c124)).trans (if_neg (fun q => absurd q.1 c155)))]; exact ih (n + 1) (ppdA M n) (some (.int (M 17 n))) _ (hq.2 (fun q => absurd q.1 c155)))
                    | (have hq := (hV.2.2 c72).2.2 (fun q => absurd q.1 c124); rw [show ppd (k + 1) (n + 1) M = _ from (if_neg c72).trans ((if_neg (fun q => absurd q.1 c124)).trans (if_neg (fun q => absurd q.2.1 c168)))]; exact ih (n + 1) (ppdA M n) (some (.int (M 17 n))) _ (hq.2 (fun q => absurd q.2.1 c168)))
                    | (have hq := (hV.2.2 c72).2.2 (fun q => absurd q.1 c124); rw [show ppd (k + 1) (n + 1) M = _ from (if_neg c72).trans ((if_neg (fun q => absurd q.1 c124)).trans (if_neg (fun q => absurd c186 q.2.2)))]; exact ih (n + 1) (ppdA M n) (some (.int (M 17 n))) _ (hq.2 (fun q => absurd c186 q.2.2)))
                    | (have hq := (hV.2.2 c72).2.2 (fun q => absurd q.2 c142); rw [show ppd (k + 1) (n + 1) M = _ from (if_neg c72).trans ((if_neg (fun q => absurd q.2 c142)).trans (if_pos ⟨c155, c168, c186⟩)), nI_1]; exact ih (n + 1 + 1) (ppdB (ppdA M n) (n + 1) (pof M (M 17 n) 4)) (some (.int (M 17 n))) (some (.int (pof M (M 17 n) 4))) (hq.1 ⟨c155, c168, c186⟩))
                    | (have hq := (hV.2.2 c72).2.2 (fun q => absurd q.2 c142); rw [show ppd (k + 1) (n + 1) M = _ from (if_neg c72).trans ((if_neg (fun q => absurd q.2 c142)).trans (if_neg (fun q => absurd q.1 c155)))]; exact ih (n + 1) (ppdA M n) (some (.int (M 17 n))) _ (hq.2 (fun q => absurd q.1 c155)))
                    | (have hq := (hV.2.2 c72).2.2 (fun q => absurd q.2 c142); rw [show ppd (k + 1) (n + 1) M = _ from (if_neg c72).trans ((if_neg (fun q => absurd q.2 c142)).trans (if_neg (fun q => absurd q.2.1 c168)))]; exact ih (n + 1) (ppdA M n) (some (.int (M 17 n))) _ (hq.2 (fun q => absurd q.2.1 c168)))
                    | (have hq := (hV.2.2 c72).2.2 (fun q => absurd q.2 c142); rw [show ppd (k + 1) (n + 1) M = _ from (if_neg c72).trans ((if_neg (fun q => absurd q.2 c142)).trans (if_neg (fun q => absurd c186 q.2.2)))]; exact ih (n + 1) (ppdA M n) (some (.int (M 17 n))) _ (hq.2 (fun q => absurd c186 q.2.2)))
                · show zS _ _ _ _ _ _ _ 189 _ _ _ _ _
                  refine z_aload0 dX12_pending_189 ?_
                  refine z_iload3 dX12_pending_190 ?_
                  refine z_iconst (v := 4) dX12_pending_191 (by decide) ?_
                  refine z_callVi zmd_X12_of rfl (by decide) zl_RX12_213 zin_X12_of zsel_X12_of (R_X12_of (d := d - 1) hW _ hx _ (⟨by decide, by decide⟩ : iv 7 (4 : Int32))) hW.o rfl rfl (by omega) rfl dX12_pending_192 ?_
                  refine z_istore4 dX12_pending_195 ?_
                  refine z_aload0 dX12_pending_197 ?_
                  refine z_getRs fl_RX12_68 (by decide) hW.o (hW.r 18 rfl) dX12_pending_198 ?_
                  refine z_iload4 dX12_pending_201 ?_
                  refine z_aload0 dX12_pending_203 ?_
                  refine zr_getI fl_RX12_235 hW dX12_pending_204 ?_
                  refine zr_st hW (i := 18) rfl (by decide) (by decide) ((hV.2.2 c72).2.1 (Or.inr c155)).2 (by omega) dX12_pending_207 ?_
                  show zS _ _ _ _ _ _ _ 208 _ _ _ _ _
                  refine z_aload0 dX12_pending_208 ?_
                  refine z_getRs fl_RX12_62 (by decide) hW.o (hW.r 16 rfl) dX12_pending_209 ?_
                  refine z_iload2 dX12_pending_212 ?_
                  refine z_aload0 dX12_pending_213 ?_
                  refine z_getRs fl_RX12_14 (by decide) hW.o (hW.r 1 rfl) dX12_pending_214 ?_
                  refine z_sipush (v := 3630) dX12_pending_217 (by decide) ?_
                  refine z_iconst (v := 3) dX12_pending_220 (by decide) ?_
                  refine z_iload4 dX12_pending_221 ?_
                  refine z_imul dX12_pending_223 ?_
                  refine z_iadd dX12_pending_224 ?_
                  refine zr_ld hW (i := 1) rfl (by decide) (by decide) (ixA (ixC 3630) (ixM (ixC 3) ((hV.2.2 c72).2.1 (Or.inr c155)).2)) (by omega) dX12_pending_225 ?_
                  refine zr_st hW (i := 16) rfl (by decide) (by decide) (rfl : nI (n + 1) = nI (n + 1)) (by omega) dX12_pending_226 ?_
                  show zS _ _ _ _ _ _ _ 227 _ _ _ _ _
                  refine z_aload0 dX12_pending_227 ?_
                  refine z_getRs fl_RX12_65 (by decide) hW.o (hW.r 17 rfl) dX12_pending_228 ?_
                  refine z_iload2 dX12_pending_231 ?_
                  refine z_aload0 dX12_pending_232 ?_
                  refine z_getRs fl_RX12_14 (by decide) hW.o (hW.r 1 rfl) dX12_pending_233 ?_
                  refine z_sipush (v := 3630) dX12_pending_236 (by decide) ?_
                  refine z_iconst (v := 3) dX12_pending_239 (by decide) ?_
                  refine z_iload4 dX12_pending_240 ?_
                  refine z_imul dX12_pending_242 ?_
                  refine z_iadd dX12_pending_243 ?_
                  refine z_iconst (v := 1) dX12_pending_244 (by decide) ?_
                  refine z_iadd dX12_pending_245 ?_
                  show zS _ _ _ _ _ _ _ 246 _ _ _ _ _
                  refine zr_ld hW (i := 1) rfl (by decide) (by decide) (ixA (ixA (ixC 3630) (ixM (ixC 3) ((hV.2.2 c72).2.1 (Or.inr c155)).2)) (ixC 1)) (by omega) dX12_pending_246 ?_
                  refine zr_st hW (i := 17) rfl (by decide) (by decide) (rfl : nI (n + 1) = nI (n + 1)) (by omega) dX12_pending_247 ?_
                  refine z_iinc2 (y := 1) dX12_pending_248 (by decide) ?_
                  refine z_goto (tgt := 60) dX12_pending_251 (by decide) ?_
                  show zS _ _ _ _ _ _ _ 60 _ _ _ _ _
                  first
                    | (have hq := (hV.2.2 c72).2.2 (fun q => absurd q.1 c124); rw [show ppd (k + 1) (n + 1) M = _ from (if_neg c72).trans ((if_neg (fun q => absurd q.1 c124)).trans (if_pos ⟨c155, c168, c186⟩)), nI_1]; exact ih (n + 1 + 1) (ppdB (ppdA M n) (n + 1) (pof M (M 17 n) 4)) (some (.int (M 17 n))) (some (.int (pof M (M 17 n) 4))) (hq.1 ⟨c155, c168, c186⟩))
                    | (have hq := (hV.2.2 c72).2.2 (fun q => absurd q.1 c124); rw [show ppd (k + 1) (n + 1) M = _ from (if_neg c72).trans ((if_neg (fun q => absurd q.1 c124)).trans (if_neg (fun q => absurd q.1 c155)))]; exact ih (n + 1) (ppdA M n) (some (.int (M 17 n))) _ (hq.2 (fun q => absurd q.1 c155)))
                    | (have hq := (hV.2.2 c72).2.2 (fun q => absurd q.1 c124); rw [show ppd (k + 1) (n + 1) M = _ from (if_neg c72).trans ((if_neg (fun q => absurd q.1 c124)).trans (if_neg (fun q => absurd q.2.1 c168)))]; exact ih (n + 1) (ppdA M n) (some (.int (M 17 n))) _ (hq.2 (fun q => absurd q.2.1 c168)))
                    | (have hq := (hV.2.2 c72).2.2 (fun q => absurd q.1 c124); rw [show ppd (k + 1) (n + 1) M = _ from (if_neg c72).trans ((if_neg (fun q => absurd q.1 c124)).trans (if_neg (fun q => absurd c186 q.2.2)))]; exact ih (n + 1) (ppdA M n) (some (.int (M 17 n))) _ (hq.2 (fun q => absurd c186 q.2.2)))
                    | (have hq := (hV.2.2 c72).2.2 (fun q => absurd q.2 c142); rw [show ppd (k + 1) (n + 1) M = _ from (if_neg c72).trans ((if_neg (fun q => absurd q.2 c142)).trans (if_pos ⟨c155, c168, c186⟩)), nI_1]; exact ih (n + 1 + 1) (ppdB (ppdA M n) (n + 1) (pof M (M 17 n) 4)) (some (.int (M 17 n))) (some (.int (pof M (M 17 n) 4))) (hq.1 ⟨c155, c168, c186⟩))
                    | (have hq := (hV.2.2 c72).2.2 (fun q => absurd q.2 c142); rw [show ppd (k + 1) (n + 1) M = _ from (if_neg c72).trans ((if_neg (fun q => absurd q.2 c142)).trans (if_neg (fun q => absurd q.1 c155)))]; exact ih (n + 1) (ppdA M n) (some (.int (M 17 n))) _ (hq.2 (fun q => absurd q.1 c155)))
                    | (have hq := (hV.2.2 c72).2.2 (fun q => absurd q.2 c142); rw [show ppd (k + 1) (n + 1) M = _ from (if_neg c72).trans ((if_neg (fun q => absurd q.2 c142)).trans (if_neg (fun q => absurd q.2.1 c168)))]; exact ih (n + 1) (ppdA M n) (some (.int (M 17 n))) _ (hq.2 (fun q => absurd q.2.1 c168)))
                    | (have hq := (hV.2.2 c72).2.2 (fun q => absurd q.2 c142); rw [show ppd (k + 1) (n + 1) M = _ from (if_neg c72).trans ((if_neg (fun q => absurd q.2 c142)).trans (if_neg (fun q => absurd c186 q.2.2)))]; exact ih (n + 1) (ppdA M n) (some (.int (M 17 n))) _ (hq.2 (fun q => absurd c186 q.2.2)))
          · show zS _ _ _ _ _ _ _ 145 _ _ _ _ _
            refine z_iload3 dX12_pending_145 ?_
            refine z_iret dX12_pending_146 rfl ?_
            have e : ppd (k + 1) (n + 1) M = (M 17 n, ppdA M n) := (if_neg c72).trans (if_pos ⟨c124, c142⟩)
            rw [e]
            exact ⟨rfl, rfl, rfl, rfl, rfl⟩
      · show zS _ _ _ _ _ _ _ 75 _ _ _ _ _
        refine z_iinc2 (y := (-1)) dX12_pending_75 (by decide) ?_
        rw [pk_m1]
        rw [show ppd (k + 1) (n + 1) M = ppd k n M from if_pos c72]
        refine z_goto (tgt := 60) dX12_pending_78 (by decide) ?_
        exact ih n M y3 y4 (hV.2.1 c72)
set_option maxRecDepth 20000 in
theorem R_X12_pending {l : Launch} {d : Nat} {D : zD} {b0 : Nat} {g : zG} {f M : zI} {o : Nat} (hW : RW b0 g o) (r : Int32) (k : Nat) (hV : ppendV M r k) (hd : 1 ≤ d) : zM l d D b0 mX12_pending [.ref o, .int r] g (rv o f M) (zEx (some (.int ((ppend M r k).1))) g (rv o f ((ppend M r k).2))) := by
  have hr1 := hV.1.1
  refine zM.start zmd_X12_pending (Nat.le_of_ble_eq_true rfl) ⟨rfl, rfl, trivial⟩ [some (.ref o), some (.int r), none, none, none] rfl ?_
  refine z_iconst (v := 1) dX12_pending_0 (by decide) ?_
  refine z_istore2 dX12_pending_1 ?_
  refine z_aload0 dX12_pending_2 ?_
  refine z_dup dX12_pending_3 ?_
  refine zr_getI fl_RX12_235 hW dX12_pending_4 ?_
  refine z_iconst (v := 1) dX12_pending_7 (by decide) ?_
  refine z_iadd dX12_pending_8 ?_
  refine zr_putI fl_RX12_235 hW dX12_pending_9 ?_
  refine z_aload0 dX12_pending_12 ?_
  refine z_getRs fl_RX12_68 (by decide) hW.o (hW.r 18 rfl) dX12_pending_13 ?_
  refine z_iload1 dX12_pending_16 ?_
  show zS _ _ _ _ _ _ _ 17 _ _ _ _ _
  refine z_aload0 dX12_pending_17 ?_
  refine zr_getI fl_RX12_235 hW dX12_pending_18 ?_
  refine zr_st hW (i := 18) rfl (by decide) (by decide) hV.1.2 (by omega) dX12_pending_21 ?_
  refine z_aload0 dX12_pending_22 ?_
  refine z_getRs fl_RX12_62 (by decide) hW.o (hW.r 16 rfl) dX12_pending_23 ?_
  refine z_iconst (v := 0) dX12_pending_26 (by decide) ?_
  refine z_aload0 dX12_pending_27 ?_
  refine z_getRs fl_RX12_14 (by decide) hW.o (hW.r 1 rfl) dX12_pending_28 ?_
  refine z_sipush (v := 3630) dX12_pending_31 (by decide) ?_
  refine z_iconst (v := 3) dX12_pending_34 (by decide) ?_
  refine z_iload1 dX12_pending_35 ?_
  refine z_imul dX12_pending_36 ?_
  show zS _ _ _ _ _ _ _ 37 _ _ _ _ _
  refine z_iadd dX12_pending_37 ?_
  refine zr_ld hW (i := 1) rfl (by decide) (by decide) (ixA (ixC 3630) (ixM (ixC 3) hV.1.2)) (by omega) dX12_pending_38 ?_
  refine zr_st hW (i := 16) rfl (by decide) (by decide) (ixC 0) (by decide) dX12_pending_39 ?_
  refine z_aload0 dX12_pending_40 ?_
  refine z_getRs fl_RX12_65 (by decide) hW.o (hW.r 17 rfl) dX12_pending_41 ?_
  refine z_iconst (v := 0) dX12_pending_44 (by decide) ?_
  refine z_aload0 dX12_pending_45 ?_
  refine z_getRs fl_RX12_14 (by decide) hW.o (hW.r 1 rfl) dX12_pending_46 ?_
  refine z_sipush (v := 3630) dX12_pending_49 (by decide) ?_
  refine z_iconst (v := 3) dX12_pending_52 (by decide) ?_
  refine z_iload1 dX12_pending_53 ?_
  refine z_imul dX12_pending_54 ?_
  show zS _ _ _ _ _ _ _ 55 _ _ _ _ _
  refine z_iadd dX12_pending_55 ?_
  refine z_iconst (v := 1) dX12_pending_56 (by decide) ?_
  refine z_iadd dX12_pending_57 ?_
  refine zr_ld hW (i := 1) rfl (by decide) (by decide) (ixA (ixA (ixC 3630) (ixM (ixC 3) hV.1.2)) (ixC 1)) (by omega) dX12_pending_58 ?_
  refine zr_st hW (i := 17) rfl (by decide) (by decide) (ixC 0) (by decide) dX12_pending_59 ?_
  exact Rl_X12_pending hW r hd k 1 _ none none hV.2
