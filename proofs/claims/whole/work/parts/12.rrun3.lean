/-! The reference's run: a step, and what the calls of a run do. -/
def pfu : Nat := 200000
def pclose (M : zI) (x v : Int32) : Int32 × zI :=
  let r := pof M x 4
  let q := if puses M r = 0 then ppend M r pfu else (-9, M)
  if q.1 = -9 then (1, pbecome q.2 v) else if 100 < pdepth q.2 + 2 then (0, q.2) else (1, pexec (ppush q.2 14 (-9) (-9) (-9) r) q.1 v)
def pcloseV (M : zI) (x : Int32) : Prop := iv 40000 x ∧ iv 1200 (pof M x 4) ∧ (puses M (pof M x 4) = 0 → ppendV M (pof M x 4) pfu ∧
  (¬ (ppend M (pof M x 4) pfu).1 = -9 → pushV (ppend M (pof M x 4) pfu).2 ∧ pexecV (ppush (ppend M (pof M x 4) pfu).2 14 (-9) (-9) (-9) (pof M x 4)) (ppend M (pof M x 4) pfu).1))
set_option maxRecDepth 20000 in
theorem R_X12_closesClause {l : Launch} {d : Nat} {D : zD} {b0 : Nat} {g : zG} {f M : zI} {o : Nat} (hW : RW b0 g o) (x v : Int32) (hV : pcloseV M x) (hd : 4 ≤ d) : zM l d D b0 mX12_closesClause [.ref o, .int x, .int v] g (rv o f M) (zEx (some (.int ((pclose M x v).1))) g (rv o f ((pclose M x v).2))) := by
  refine zM.start zmd_X12_closesClause (Nat.le_of_ble_eq_true rfl) ⟨rfl, rfl, rfl, trivial⟩ [some (.ref o), some (.int x), some (.int v), none, none] rfl ?_
  refine z_aload0 dX12_closesClause_0 ?_
  refine z_iload1 dX12_closesClause_1 ?_
  refine z_iconst (v := 4) dX12_closesClause_2 (by decide) ?_
  refine z_callVi zmd_X12_of rfl (by decide) zl_RX12_213 zin_X12_of zsel_X12_of (R_X12_of (d := d - 1) hW _ hV.1 _ (⟨by decide, by decide⟩ : iv 7 (4 : Int32))) hW.o rfl rfl (by omega) rfl dX12_closesClause_3 ?_
  refine z_istore3 dX12_closesClause_6 ?_
  refine z_aload0 dX12_closesClause_7 ?_
  refine z_iload3 dX12_closesClause_8 ?_
  refine z_callVi zmd_X12_uses rfl (by decide) zl_RX12_232 zin_X12_uses zsel_X12_uses (R_X12_uses (d := d - 1) hW _ hV.2.1) hW.o rfl rfl (by omega) rfl dX12_closesClause_9 ?_
  refine z_if_ne (tgt := 23) dX12_closesClause_12 (by decide) (fun c12 => ?_) (fun c12 => ?_)
  · show zS _ _ _ _ _ _ _ 23 _ _ _ _ _
    refine z_bipush (v := (-9)) dX12_closesClause_23 (by decide) ?_
    refine z_istore4 dX12_closesClause_25 ?_
    refine z_iload4 dX12_closesClause_27 ?_
    refine z_bipush (v := (-9)) dX12_closesClause_29 (by decide) ?_
    refine z_icmp_ne (tgt := 41) dX12_closesClause_31 (by decide) (fun c31 => ?_) (fun c31 => ?_)
    · exact absurd rfl c31
    · show zS _ _ _ _ _ _ _ 34 _ _ _ _ _
      refine z_aload0 dX12_closesClause_34 ?_
      refine z_iload2 dX12_closesClause_35 ?_
      refine z_callVv zmd_X12_become rfl (by decide) zl_RX12_219 zin_X12_become zsel_X12_become (R_X12_become (d := d - 1) hW _) hW.o rfl rfl (by omega) rfl dX12_closesClause_36 ?_
      refine z_iconst (v := 1) dX12_closesClause_39 (by decide) ?_
      refine z_iret dX12_closesClause_40 rfl ?_
      first
        | (rw [show pclose M x v = (1, pbecome (ppend M (pof M x 4) pfu).2 v) from by unfold pclose; simp only [if_pos c12]; exact if_pos c31]; exact ⟨rfl, rfl, rfl, rfl, rfl⟩)
        | (rw [show pclose M x v = (1, pbecome M v) from by unfold pclose; simp only [if_neg c12]; first | rfl | exact if_pos rfl]; exact ⟨rfl, rfl, rfl, rfl, rfl⟩)
  · show zS _ _ _ _ _ _ _ 15 _ _ _ _ _
    refine z_aload0 dX12_closesClause_15 ?_
    refine z_iload3 dX12_closesClause_16 ?_
    refine z_callVi zmd_X12_pending rfl (by decide) zl_RX12_241 zin_X12_pending zsel_X12_pending (R_X12_pending (d := d - 1) hW _ pfu (hV.2.2 c12).1 (by omega)) hW.o rfl rfl (by omega) rfl dX12_closesClause_17 ?_
    refine z_goto (tgt := 25) dX12_closesClause_20 (by decide) ?_
    show zS _ _ _ _ _ _ _ 25 _ _ _ _ _
    refine z_istore4 dX12_closesClause_25 ?_
    refine z_iload4 dX12_closesClause_27 ?_
    refine z_bipush (v := (-9)) dX12_closesClause_29 (by decide) ?_
    refine z_icmp_ne (tgt := 41) dX12_closesClause_31 (by decide) (fun c31 => ?_) (fun c31 => ?_)
    · show zS _ _ _ _ _ _ _ 41 _ _ _ _ _
      refine z_aload0 dX12_closesClause_41 ?_
      refine z_callVi zmd_X12_depth rfl (by decide) zl_RX12_216 zin_X12_depth zsel_X12_depth (R_X12_depth (d := d - 1) hW ((hV.2.2 c12).2 c31).1.2 (by omega)) hW.o rfl rfl (by omega) rfl dX12_closesClause_42 ?_
      refine z_iconst (v := 2) dX12_closesClause_45 (by decide) ?_
      refine z_iadd dX12_closesClause_46 ?_
      refine z_bipush (v := 100) dX12_closesClause_47 (by decide) ?_
      refine z_icmp_le (tgt := 54) dX12_closesClause_49 (by decide) (fun c49 => ?_) (fun c49 => ?_)
      · show zS _ _ _ _ _ _ _ 54 _ _ _ _ _
        refine z_aload0 dX12_closesClause_54 ?_
        refine z_bipush (v := 14) dX12_closesClause_55 (by decide) ?_
        refine z_bipush (v := (-9)) dX12_closesClause_57 (by decide) ?_
        refine z_bipush (v := (-9)) dX12_closesClause_59 (by decide) ?_
        refine z_bipush (v := (-9)) dX12_closesClause_61 (by decide) ?_
        refine z_iload3 dX12_closesClause_63 ?_
        refine z_callVv zmd_X12_push rfl (by decide) zl_RX12_228 zin_X12_push zsel_X12_push (R_X12_push (d := d - 1) hW _ _ _ _ _ ((hV.2.2 c12).2 c31).1.1 ((hV.2.2 c12).2 c31).1.2 (by omega)) hW.o rfl rfl (by omega) rfl dX12_closesClause_64 ?_
        refine z_aload0 dX12_closesClause_67 ?_
        refine z_iload4 dX12_closesClause_68 ?_
        refine z_iload2 dX12_closesClause_70 ?_
        refine z_callVv zmd_X12_executeFinalizer rfl (by decide) zl_RX12_244 zin_X12_executeFinalizer zsel_X12_executeFinalizer (R_X12_executeFinalizer (d := d - 1) hW _ _ ((hV.2.2 c12).2 c31).2 (by omega)) hW.o rfl rfl (by omega) rfl dX12_closesClause_71 ?_
        show zS _ _ _ _ _ _ _ 74 _ _ _ _ _
        refine z_iconst (v := 1) dX12_closesClause_74 (by decide) ?_
        refine z_iret dX12_closesClause_75 rfl ?_
        rw [show pclose M x v = (1, pexec (ppush (ppend M (pof M x 4) pfu).2 14 (-9) (-9) (-9) (pof M x 4)) (ppend M (pof M x 4) pfu).1 v) from by unfold pclose; simp only [if_pos c12]; exact (if_neg c31).trans (if_neg c49)]
        exact ⟨rfl, rfl, rfl, rfl, rfl⟩
      · show zS _ _ _ _ _ _ _ 52 _ _ _ _ _
        refine z_iconst (v := 0) dX12_closesClause_52 (by decide) ?_
        refine z_iret dX12_closesClause_53 rfl ?_
        rw [show pclose M x v = (0, (ppend M (pof M x 4) pfu).2) from by unfold pclose; simp only [if_pos c12]; exact (if_neg c31).trans (if_pos c49)]
        exact ⟨rfl, rfl, rfl, rfl, rfl⟩
    · show zS _ _ _ _ _ _ _ 34 _ _ _ _ _
      refine z_aload0 dX12_closesClause_34 ?_
      refine z_iload2 dX12_closesClause_35 ?_
      refine z_callVv zmd_X12_become rfl (by decide) zl_RX12_219 zin_X12_become zsel_X12_become (R_X12_become (d := d - 1) hW _) hW.o rfl rfl (by omega) rfl dX12_closesClause_36 ?_
      refine z_iconst (v := 1) dX12_closesClause_39 (by decide) ?_
      refine z_iret dX12_closesClause_40 rfl ?_
      first
        | (rw [show pclose M x v = (1, pbecome (ppend M (pof M x 4) pfu).2 v) from by unfold pclose; simp only [if_pos c12]; exact if_pos c31]; exact ⟨rfl, rfl, rfl, rfl, rfl⟩)
        | (rw [show pclose M x v = (1, pbecome M v) from by unfold pclose; simp only [if_neg c12]; first | rfl | exact if_pos rfl]; exact ⟨rfl, rfl, rfl, rfl, rfl⟩)
def pcomes (M : zI) (x v : Int32) : Int32 × zI :=
    if pof M x 0 = 1 then (1, pfocusOn (ppush M 2 (pof M x 1) (-9) (-9) v) (ppart (ppush M 2 (pof M x 1) (-9) (-9) v) (pof M x 1) 2) (pof (ppush M 2 (pof M x 1) (-9) (-9) v) x 2) (pof (ppush M 2 (pof M x 1) (-9) (-9) v) x 3)) else
    if pof M x 0 = 2 then (1, pbecome M (presult (pkind M (pof M x 1)) (pof M x 4) v)) else
    if pof M x 0 = 3 then (1, pfocusOn M (ppart M (pof M x 1) (if v = 0 then 3 else 2)) (pof M x 2) (pof M x 3)) else
    if pof M x 0 = 4 then (1, pfocusOn M (ppart M (pof M x 1) 2) (pof M x 2) (pof M x 3)) else
    if pof M x 0 = 5 then (1, pfocusOn (pbindTo M (pof M x 2) (parg M (pof M x 1)) v) (ppart M (pof M x 1) 2) (M 2 22) (pof M x 3)) else
    if pof M x 0 = 6 then (1, pbecome (ptrace0 M v) v) else
    if pof M x 0 = 7 then (1, pperf M (parg M (pof M x 1)) v) else
    if pof M x 0 = 9 then (1, if M 2 (7230 + tn (pof M x 4)) = 0 then pexec M x v else pbecome M v) else
    if pof M x 0 = 10 then (1, pcall M x v) else
    if pof M x 0 = 11 then presumes M (pof M x 4) v else
    if pof M x 0 = 12 then (1, pleave M x v) else
    if pof M x 0 = 13 then (1, pbecome M (pof M x 4)) else
    if pof M x 0 = 14 then pclose M x v else
    (1, pbecome M v)
theorem pcomes_1 {M : zI} {x v : Int32} (h : pof M x 0 = 1) : pcomes M x v = (1, pfocusOn (ppush M 2 (pof M x 1) (-9) (-9) v) (ppart (ppush M 2 (pof M x 1) (-9) (-9) v) (pof M x 1) 2) (pof (ppush M 2 (pof M x 1) (-9) (-9) v) x 2) (pof (ppush M 2 (pof M x 1) (-9) (-9) v) x 3)) := by
  unfold pcomes
  rw [h]
  rfl
theorem pcomes_2 {M : zI} {x v : Int32} (h : pof M x 0 = 2) : pcomes M x v = (1, pbecome M (presult (pkind M (pof M x 1)) (pof M x 4) v)) := by
  unfold pcomes
  rw [h]
  rfl
theorem pcomes_3 {M : zI} {x v : Int32} (h : pof M x 0 = 3) : pcomes M x v = (1, pfocusOn M (ppart M (pof M x 1) (if v = 0 then 3 else 2)) (pof M x 2) (pof M x 3)) := by
  unfold pcomes
  rw [h]
  rfl
theorem pcomes_4 {M : zI} {x v : Int32} (h : pof M x 0 = 4) : pcomes M x v = (1, pfocusOn M (ppart M (pof M x 1) 2) (pof M x 2) (pof M x 3)) := by
  unfold pcomes
  rw [h]
  rfl
theorem pcomes_5 {M : zI} {x v : Int32} (h : pof M x 0 = 5) : pcomes M x v = (1, pfocusOn (pbindTo M (pof M x 2) (parg M (pof M x 1)) v) (ppart M (pof M x 1) 2) (M 2 22) (pof M x 3)) := by
  unfold pcomes
  rw [h]
  rfl
theorem pcomes_6 {M : zI} {x v : Int32} (h : pof M x 0 = 6) : pcomes M x v = (1, pbecome (ptrace0 M v) v) := by
  unfold pcomes
  rw [h]
  rfl
theorem pcomes_7 {M : zI} {x v : Int32} (h : pof M x 0 = 7) : pcomes M x v = (1, pperf M (parg M (pof M x 1)) v) := by
  unfold pcomes
  rw [h]
  rfl
theorem pcomes_9 {M : zI} {x v : Int32} (h : pof M x 0 = 9) : pcomes M x v = (1, if M 2 (7230 + tn (pof M x 4)) = 0 then pexec M x v else pbecome M v) := by
  unfold pcomes
  rw [h]
  rfl
theorem pcomes_10 {M : zI} {x v : Int32} (h : pof M x 0 = 10) : pcomes M x v = (1, pcall M x v) := by
  unfold pcomes
  rw [h]
  rfl
theorem pcomes_11 {M : zI} {x v : Int32} (h : pof M x 0 = 11) : pcomes M x v = presumes M (pof M x 4) v := by
  unfold pcomes
  rw [h]
  rfl
theorem pcomes_12 {M : zI} {x v : Int32} (h : pof M x 0 = 12) : pcomes M x v = (1, pleave M x v) := by
  unfold pcomes
  rw [h]
  rfl
theorem pcomes_13 {M : zI} {x v : Int32} (h : pof M x 0 = 13) : pcomes M x v = (1, pbecome M (pof M x 4)) := by
  unfold pcomes
  rw [h]
  rfl
theorem pcomes_14 {M : zI} {x v : Int32} (h : pof M x 0 = 14) : pcomes M x v = pclose M x v := by
  unfold pcomes
  rw [h]
  rfl
theorem pcomes_8 {M : zI} {x v : Int32} (h : pof M x 0 = 8) : pcomes M x v = (1, pbecome M v) := by
  unfold pcomes
  rw [h]
  rfl
theorem zn01 {x : Int32} (h : x = 0 ∨ x = 1) : narrow .boolean (.int x) = .int x := by
  rcases h with rfl | rfl <;> rfl
theorem zite01 {α : Type} (a : Prop) [Decidable a] (x y : Int32 × α) (hx : x.1 = 0 ∨ x.1 = 1) (hy : y.1 = 0 ∨ y.1 = 1) : (if a then x else y).1 = 0 ∨ (if a then x else y).1 = 1 := by
  by_cases h : a
  · rw [if_pos h]; exact hx
  · rw [if_neg h]; exact hy
theorem presumes_01 (M : zI) (r v : Int32) : (presumes M r v).1 = 0 ∨ (presumes M r v).1 = 1 := zite01 _ _ _ (Or.inl rfl) (Or.inr rfl)
theorem pclose_01 (M : zI) (x v : Int32) : (pclose M x v).1 = 0 ∨ (pclose M x v).1 = 1 := zite01 _ _ _ (Or.inr rfl) (zite01 _ _ _ (Or.inl rfl) (Or.inr rfl))
theorem pcomes_01 (M : zI) (x v : Int32) : (pcomes M x v).1 = 0 ∨ (pcomes M x v).1 = 1 := by
  unfold pcomes
  repeat' (refine zite01 _ _ _ ?_ ?_)
  all_goals first | exact Or.inr rfl | exact Or.inl rfl | exact presumes_01 _ _ _ | exact pclose_01 _ _ _
def pcomesV (M : zI) (x : Int32) : Prop := iv 40000 x ∧ (pof M x 0 = 1 → iv 65000 (pof M x 1) ∧ pushV M ∧ tn x < tn (M 2 21)) ∧ (pof M x 0 = 2 ∨ pof M x 0 = 3 ∨ pof M x 0 = 4 → iv 65000 (pof M x 1)) ∧
  (pof M x 0 = 5 → iv 65000 (pof M x 1) ∧ iv 1200 (M 2 22)) ∧ (pof M x 0 = 6 → iv 61 (M 2 9)) ∧ (pof M x 0 = 7 → iv 65000 (pof M x 1) ∧ pperfV M (parg M (pof M x 1))) ∧
  (pof M x 0 = 9 → iv 1200 (pof M x 4) ∧ (M 2 (7230 + tn (pof M x 4)) = 0 → pexecV M x)) ∧ (pof M x 0 = 10 → pcallV M x) ∧ (pof M x 0 = 11 → presumesV M (pof M x 4)) ∧ (pof M x 0 = 12 → pleaveV M x) ∧ (pof M x 0 = 14 → pcloseV M x)
set_option maxRecDepth 20000 in
theorem R_X12_comesTo {l : Launch} {d : Nat} {D : zD} {b0 : Nat} {g : zG} {f M : zI} {o : Nat} (hW : RW b0 g o) (x v : Int32) (hV : pcomesV M x) (hd : 5 ≤ d) : zM l d D b0 mX12_comesTo [.ref o, .int x, .int v] g (rv o f M) (zEx (some (.int ((pcomes M x v).1))) g (rv o f ((pcomes M x v).2))) := by
  obtain ⟨hx, h1, h2, h5, h6, h7, h9, h10, h11, h12, h14⟩ := hV
  refine zM.start zmd_X12_comesTo (Nat.le_of_ble_eq_true rfl) ⟨rfl, rfl, rfl, trivial⟩ [some (.ref o), some (.int x), some (.int v), none] rfl ?_
  refine z_aload0 dX12_comesTo_0 ?_
  refine z_iload1 dX12_comesTo_1 ?_
  refine z_iconst (v := 1) dX12_comesTo_2 (by decide) ?_
  refine z_callVi zmd_X12_of rfl (by decide) zl_RX12_213 zin_X12_of zsel_X12_of (R_X12_of (d := d - 1) hW _ hx _ (⟨by decide, by decide⟩ : iv 7 (1 : Int32))) hW.o rfl rfl (by omega) rfl dX12_comesTo_3 ?_
  refine z_istore3 dX12_comesTo_6 ?_
  refine z_aload0 dX12_comesTo_7 ?_
  refine z_iload1 dX12_comesTo_8 ?_
  refine z_iconst (v := 0) dX12_comesTo_9 (by decide) ?_
  refine z_callVi zmd_X12_of rfl (by decide) zl_RX12_213 zin_X12_of zsel_X12_of (R_X12_of (d := d - 1) hW _ hx _ (⟨by decide, by decide⟩ : iv 7 (0 : Int32))) hW.o rfl rfl (by omega) rfl dX12_comesTo_10 ?_
  refine z_tab dX12_comesTo_13 (by decide +kernel) (by decide +kernel) ?_
  refine ⟨fun c13_0 => ?_, fun nc13_0 => ?_⟩
  · show zS _ _ _ _ _ _ _ 84 _ _ _ _ _
    have kk : pof M x 0 = 1 := c13_0
    refine z_aload0 dX12_comesTo_84 ?_
    refine z_iconst (v := 2) dX12_comesTo_85 (by decide) ?_
    refine z_iload3 dX12_comesTo_86 ?_
    refine z_bipush (v := (-9)) dX12_comesTo_87 (by decide) ?_
    refine z_bipush (v := (-9)) dX12_comesTo_89 (by decide) ?_
    refine z_iload2 dX12_comesTo_91 ?_
    refine z_callVv zmd_X12_push rfl (by decide) zl_RX12_228 zin_X12_push zsel_X12_push (R_X12_push (d := d - 1) hW _ _ _ _ _ (h1 kk).2.1.1 (h1 kk).2.1.2 (by omega)) hW.o rfl rfl (by omega) rfl dX12_comesTo_92 ?_
    refine z_aload0 dX12_comesTo_95 ?_
    refine z_aload0 dX12_comesTo_96 ?_
    refine z_iload3 dX12_comesTo_97 ?_
    refine z_iconst (v := 2) dX12_comesTo_98 (by decide) ?_
    show zS _ _ _ _ _ _ _ 99 _ _ _ _ _
    refine z_callVi zmd_X12_part rfl (by decide) zl_RX12_165 zin_X12_part zsel_X12_part (R_X12_part (d := d - 1) hW _ (h1 kk).1 _ (⟨by decide, by decide⟩ : iv 4 (2 : Int32))) hW.o rfl rfl (by omega) rfl dX12_comesTo_99 ?_
    refine z_aload0 dX12_comesTo_102 ?_
    refine z_iload1 dX12_comesTo_103 ?_
    refine z_iconst (v := 2) dX12_comesTo_104 (by decide) ?_
    refine z_callVi zmd_X12_of rfl (by decide) zl_RX12_213 zin_X12_of zsel_X12_of (R_X12_of (d := d - 1) hW _ hx _ (⟨by decide, by decide⟩ : iv 7 (2 : Int32))) hW.o rfl rfl (by omega) rfl dX12_comesTo_105 ?_
    refine z_aload0 dX12_comesTo_108 ?_
    refine z_iload1 dX12_comesTo_109 ?_
    refine z_iconst (v := 3) dX12_comesTo_110 (by decide) ?_
    refine z_callVi zmd_X12_of rfl (by decide) zl_RX12_213 zin_X12_of zsel_X12_of (R_X12_of (d := d - 1) hW _ hx _ (⟨by decide, by decide⟩ : iv 7 (3 : Int32))) hW.o rfl rfl (by omega) rfl dX12_comesTo_111 ?_
    refine z_callVv zmd_X12_focusOn rfl (by decide) zl_RX12_238 zin_X12_focusOn zsel_X12_focusOn (R_X12_focusOn (d := d - 1) hW _ _ _) hW.o rfl rfl (by omega) rfl dX12_comesTo_114 ?_
    refine z_iconst (v := 1) dX12_comesTo_117 (by decide) ?_
    refine z_iret dX12_comesTo_118 rfl ?_
    rw [pcomes_1 kk]
    exact ⟨rfl, rfl, rfl, rfl, rfl⟩
  refine ⟨fun c13_1 => ?_, fun nc13_1 => ?_⟩
  · show zS _ _ _ _ _ _ _ 119 _ _ _ _ _
    have kk : pof M x 0 = 2 := c13_1
    refine z_aload0 dX12_comesTo_119 ?_
    refine z_aload0 dX12_comesTo_120 ?_
    refine z_iload3 dX12_comesTo_121 ?_
    refine z_callVi zmd_X12_kind rfl (by decide) zl_RX12_134 zin_X12_kind zsel_X12_kind (R_X12_kind (d := d - 1) hW _ (h2 (Or.inl kk))) hW.o rfl rfl (by omega) rfl dX12_comesTo_122 ?_
    refine z_aload0 dX12_comesTo_125 ?_
    refine z_iload1 dX12_comesTo_126 ?_
    refine z_iconst (v := 4) dX12_comesTo_127 (by decide) ?_
    refine z_callVi zmd_X12_of rfl (by decide) zl_RX12_213 zin_X12_of zsel_X12_of (R_X12_of (d := d - 1) hW _ hx _ (⟨by decide, by decide⟩ : iv 7 (4 : Int32))) hW.o rfl rfl (by omega) rfl dX12_comesTo_128 ?_
    refine z_iload2 dX12_comesTo_131 ?_
    refine z_callSi zmd_X12_result zl_RX12_260 zst_X12_result (R_X12_result (d := d - 1) hW _ _ _) rfl rfl (by omega) rfl dX12_comesTo_132 ?_
    refine z_callVv zmd_X12_become rfl (by decide) zl_RX12_219 zin_X12_become zsel_X12_become (R_X12_become (d := d - 1) hW _) hW.o rfl rfl (by omega) rfl dX12_comesTo_135 ?_
    show zS _ _ _ _ _ _ _ 138 _ _ _ _ _
    refine z_iconst (v := 1) dX12_comesTo_138 (by decide) ?_
    refine z_iret dX12_comesTo_139 rfl ?_
    rw [pcomes_2 kk]
    exact ⟨rfl, rfl, rfl, rfl, rfl⟩
  refine ⟨fun c13_2 => ?_, fun nc13_2 => ?_⟩
  · show zS _ _ _ _ _ _ _ 140 _ _ _ _ _
    have kk : pof M x 0 = 3 := c13_2
    refine z_aload0 dX12_comesTo_140 ?_
    refine z_aload0 dX12_comesTo_141 ?_
    refine z_iload3 dX12_comesTo_142 ?_
    refine z_iload2 dX12_comesTo_143 ?_
    refine z_if_eq (tgt := 151) dX12_comesTo_144 (by decide) (fun c144 => ?_) (fun c144 => ?_)
    · show zS _ _ _ _ _ _ _ 151 _ _ _ _ _
      refine z_iconst (v := 3) dX12_comesTo_151 (by decide) ?_
      refine z_callVi zmd_X12_part rfl (by decide) zl_RX12_165 zin_X12_part zsel_X12_part (R_X12_part (d := d - 1) hW _ (h2 (Or.inr (Or.inl kk))) _ (⟨by decide, by decide⟩ : iv 4 (3 : Int32))) hW.o rfl rfl (by omega) rfl dX12_comesTo_152 ?_
      refine z_aload0 dX12_comesTo_155 ?_
      refine z_iload1 dX12_comesTo_156 ?_
      refine z_iconst (v := 2) dX12_comesTo_157 (by decide) ?_
      refine z_callVi zmd_X12_of rfl (by decide) zl_RX12_213 zin_X12_of zsel_X12_of (R_X12_of (d := d - 1) hW _ hx _ (⟨by decide, by decide⟩ : iv 7 (2 : Int32))) hW.o rfl rfl (by omega) rfl dX12_comesTo_158 ?_
      refine z_aload0 dX12_comesTo_161 ?_
      refine z_iload1 dX12_comesTo_162 ?_
      refine z_iconst (v := 3) dX12_comesTo_163 (by decide) ?_
      refine z_callVi zmd_X12_of rfl (by decide) zl_RX12_213 zin_X12_of zsel_X12_of (R_X12_of (d := d - 1) hW _ hx _ (⟨by decide, by decide⟩ : iv 7 (3 : Int32))) hW.o rfl rfl (by omega) rfl dX12_comesTo_164 ?_
      refine z_callVv zmd_X12_focusOn rfl (by decide) zl_RX12_238 zin_X12_focusOn zsel_X12_focusOn (R_X12_focusOn (d := d - 1) hW _ _ _) hW.o rfl rfl (by omega) rfl dX12_comesTo_167 ?_
      show zS _ _ _ _ _ _ _ 170 _ _ _ _ _
      refine z_iconst (v := 1) dX12_comesTo_170 (by decide) ?_
      refine z_iret dX12_comesTo_171 rfl ?_
      rw [pcomes_3 kk]
      first | (rw [if_pos (by assumption)]; exact ⟨rfl, rfl, rfl, rfl, rfl⟩) | (rw [if_neg (by assumption)]; exact ⟨rfl, rfl, rfl, rfl, rfl⟩)
    · show zS _ _ _ _ _ _ _ 147 _ _ _ _ _
      refine z_iconst (v := 2) dX12_comesTo_147 (by decide) ?_
      refine z_goto (tgt := 152) dX12_comesTo_148 (by decide) ?_
      show zS _ _ _ _ _ _ _ 152 _ _ _ _ _
      refine z_callVi zmd_X12_part rfl (by decide) zl_RX12_165 zin_X12_part zsel_X12_part (R_X12_part (d := d - 1) hW _ (h2 (Or.inr (Or.inl kk))) _ (⟨by decide, by decide⟩ : iv 4 (2 : Int32))) hW.o rfl rfl (by omega) rfl dX12_comesTo_152 ?_
      refine z_aload0 dX12_comesTo_155 ?_
      refine z_iload1 dX12_comesTo_156 ?_
      refine z_iconst (v := 2) dX12_comesTo_157 (by decide) ?_
      refine z_callVi zmd_X12_of rfl (by decide) zl_RX12_213 zin_X12_of zsel_X12_of (R_X12_of (d := d - 1) hW _ hx _ (⟨by decide, by decide⟩ : iv 7 (2 : Int32))) hW.o rfl rfl (by omega) rfl dX12_comesTo_158 ?_
      refine z_aload0 dX12_comesTo_161 ?_
      refine z_iload1 dX12_comesTo_162 ?_
      refine z_iconst (v := 3) dX12_comesTo_163 (by decide) ?_
      refine z_callVi zmd_X12_of rfl (by decide) zl_RX12_213 zin_X12_of zsel_X12_of (R_X12_of (d := d - 1) hW _ hx _ (⟨by decide, by decide⟩ : iv 7 (3 : Int32))) hW.o rfl rfl (by omega) rfl dX12_comesTo_164 ?_
      refine z_callVv zmd_X12_focusOn rfl (by decide) zl_RX12_238 zin_X12_focusOn zsel_X12_focusOn (R_X12_focusOn (d := d - 1) hW _ _ _) hW.o rfl rfl (by omega) rfl dX12_comesTo_167 ?_
      refine z_iconst (v := 1) dX12_comesTo_170 (by decide) ?_
      show zS _ _ _ _ _ _ _ 171 _ _ _ _ _
      refine z_iret dX12_comesTo_171 rfl ?_
      rw [pcomes_3 kk]
      first | (rw [if_pos (by assumption)]; exact ⟨rfl, rfl, rfl, rfl, rfl⟩) | (rw [if_neg (by assumption)]; exact ⟨rfl, rfl, rfl, rfl, rfl⟩)
  refine ⟨fun c13_3 => ?_, fun nc13_3 => ?_⟩
  · show zS _ _ _ _ _ _ _ 172 _ _ _ _ _
    have kk : pof M x 0 = 4 := c13_3
    refine z_aload0 dX12_comesTo_172 ?_
    refine z_aload0 dX12_comesTo_173 ?_
    refine z_iload3 dX12_comesTo_174 ?_
    refine z_iconst (v := 2) dX12_comesTo_175 (by decide) ?_
    refine z_callVi zmd_X12_part rfl (by decide) zl_RX12_165 zin_X12_part zsel_X12_part (R_X12_part (d := d - 1) hW _ (h2 (Or.inr (Or.inr kk))) _ (⟨by decide, by decide⟩ : iv 4 (2 : Int32))) hW.o rfl rfl (by omega) rfl dX12_comesTo_176 ?_
    refine z_aload0 dX12_comesTo_179 ?_
    refine z_iload1 dX12_comesTo_180 ?_
    refine z_iconst (v := 2) dX12_comesTo_181 (by decide) ?_
    refine z_callVi zmd_X12_of rfl (by decide) zl_RX12_213 zin_X12_of zsel_X12_of (R_X12_of (d := d - 1) hW _ hx _ (⟨by decide, by decide⟩ : iv 7 (2 : Int32))) hW.o rfl rfl (by omega) rfl dX12_comesTo_182 ?_
    refine z_aload0 dX12_comesTo_185 ?_
    refine z_iload1 dX12_comesTo_186 ?_
    show zS _ _ _ _ _ _ _ 187 _ _ _ _ _
    refine z_iconst (v := 3) dX12_comesTo_187 (by decide) ?_
    refine z_callVi zmd_X12_of rfl (by decide) zl_RX12_213 zin_X12_of zsel_X12_of (R_X12_of (d := d - 1) hW _ hx _ (⟨by decide, by decide⟩ : iv 7 (3 : Int32))) hW.o rfl rfl (by omega) rfl dX12_comesTo_188 ?_
    refine z_callVv zmd_X12_focusOn rfl (by decide) zl_RX12_238 zin_X12_focusOn zsel_X12_focusOn (R_X12_focusOn (d := d - 1) hW _ _ _) hW.o rfl rfl (by omega) rfl dX12_comesTo_191 ?_
    refine z_iconst (v := 1) dX12_comesTo_194 (by decide) ?_
    refine z_iret dX12_comesTo_195 rfl ?_
    rw [pcomes_4 kk]
    exact ⟨rfl, rfl, rfl, rfl, rfl⟩
  refine ⟨fun c13_4 => ?_, fun nc13_4 => ?_⟩
  · show zS _ _ _ _ _ _ _ 196 _ _ _ _ _
    have kk : pof M x 0 = 5 := c13_4
    refine z_aload0 dX12_comesTo_196 ?_
    refine z_aload0 dX12_comesTo_197 ?_
    refine z_iload3 dX12_comesTo_198 ?_
    refine z_iconst (v := 2) dX12_comesTo_199 (by decide) ?_
    refine z_callVi zmd_X12_part rfl (by decide) zl_RX12_165 zin_X12_part zsel_X12_part (R_X12_part (d := d - 1) hW _ (h5 kk).1 _ (⟨by decide, by decide⟩ : iv 4 (2 : Int32))) hW.o rfl rfl (by omega) rfl dX12_comesTo_200 ?_
    refine z_aload0 dX12_comesTo_203 ?_
    refine z_aload0 dX12_comesTo_204 ?_
    refine z_iload1 dX12_comesTo_205 ?_
    refine z_iconst (v := 2) dX12_comesTo_206 (by decide) ?_
    refine z_callVi zmd_X12_of rfl (by decide) zl_RX12_213 zin_X12_of zsel_X12_of (R_X12_of (d := d - 1) hW _ hx _ (⟨by decide, by decide⟩ : iv 7 (2 : Int32))) hW.o rfl rfl (by omega) rfl dX12_comesTo_207 ?_
    refine z_aload0 dX12_comesTo_210 ?_
    show zS _ _ _ _ _ _ _ 211 _ _ _ _ _
    refine z_iload3 dX12_comesTo_211 ?_
    refine z_callVi zmd_X12_argument rfl (by decide) zl_RX12_137 zin_X12_argument zsel_X12_argument (R_X12_argument (d := d - 1) hW _ (h5 kk).1) hW.o rfl rfl (by omega) rfl dX12_comesTo_212 ?_
    refine z_iload2 dX12_comesTo_215 ?_
    refine z_callVi zmd_X12_bindTo rfl (by decide) zl_RX12_257 zin_X12_bindTo zsel_X12_bindTo (R_X12_bindTo (d := d - 1) hW _ _ _ (h5 kk).2) hW.o rfl rfl (by omega) rfl dX12_comesTo_216 ?_
    refine z_aload0 dX12_comesTo_219 ?_
    refine z_iload1 dX12_comesTo_220 ?_
    refine z_iconst (v := 3) dX12_comesTo_221 (by decide) ?_
    refine z_callVi zmd_X12_of rfl (by decide) zl_RX12_213 zin_X12_of zsel_X12_of (R_X12_of (d := d - 1) hW _ hx _ (⟨by decide, by decide⟩ : iv 7 (3 : Int32))) hW.o rfl rfl (by omega) rfl dX12_comesTo_222 ?_
    refine z_callVv zmd_X12_focusOn rfl (by decide) zl_RX12_238 zin_X12_focusOn zsel_X12_focusOn (R_X12_focusOn (d := d - 1) hW _ _ _) hW.o rfl rfl (by omega) rfl dX12_comesTo_225 ?_
    refine z_iconst (v := 1) dX12_comesTo_228 (by decide) ?_
    refine z_iret dX12_comesTo_229 rfl ?_
    rw [pcomes_5 kk]
    exact ⟨rfl, rfl, rfl, rfl, rfl⟩
  refine ⟨fun c13_5 => ?_, fun nc13_5 => ?_⟩
  · show zS _ _ _ _ _ _ _ 230 _ _ _ _ _
    have kk : pof M x 0 = 6 := c13_5
    refine z_aload0 dX12_comesTo_230 ?_
    refine z_iload2 dX12_comesTo_231 ?_
    refine z_callVv zmd_X12_trace0 rfl (by decide) zl_RX12_263 zin_X12_trace0 zsel_X12_trace0 (R_X12_trace0 (d := d - 1) hW _ (h6 kk)) hW.o rfl rfl (by omega) rfl dX12_comesTo_232 ?_
    refine z_aload0 dX12_comesTo_235 ?_
    refine z_iload2 dX12_comesTo_236 ?_
    refine z_callVv zmd_X12_become rfl (by decide) zl_RX12_219 zin_X12_become zsel_X12_become (R_X12_become (d := d - 1) hW _) hW.o rfl rfl (by omega) rfl dX12_comesTo_237 ?_
    refine z_iconst (v := 1) dX12_comesTo_240 (by decide) ?_
    refine z_iret dX12_comesTo_241 rfl ?_
    rw [pcomes_6 kk]
    exact ⟨rfl, rfl, rfl, rfl, rfl⟩
  refine ⟨fun c13_6 => ?_, fun nc13_6 => ?_⟩
  · show zS _ _ _ _ _ _ _ 242 _ _ _ _ _
    have kk : pof M x 0 = 7 := c13_6
    refine z_aload0 dX12_comesTo_242 ?_
    refine z_aload0 dX12_comesTo_243 ?_
    refine z_iload3 dX12_comesTo_244 ?_
    refine z_callVi zmd_X12_argument rfl (by decide) zl_RX12_137 zin_X12_argument zsel_X12_argument (R_X12_argument (d := d - 1) hW _ (h7 kk).1) hW.o rfl rfl (by omega) rfl dX12_comesTo_245 ?_
    refine z_iload2 dX12_comesTo_248 ?_
    refine z_callVv zmd_X12_perform rfl (by decide) zl_RX12_266 zin_X12_perform zsel_X12_perform (R_X12_perform (d := d - 1) hW _ _ (h7 kk).2 (by omega)) hW.o rfl rfl (by omega) rfl dX12_comesTo_249 ?_
    refine z_iconst (v := 1) dX12_comesTo_252 (by decide) ?_
    refine z_iret dX12_comesTo_253 rfl ?_
    rw [pcomes_7 kk]
    exact ⟨rfl, rfl, rfl, rfl, rfl⟩
  refine ⟨fun c13_7 => ?_, fun nc13_7 => ?_⟩
  · show zS _ _ _ _ _ _ _ 335 _ _ _ _ _
    refine z_aload0 dX12_comesTo_335 ?_
    refine z_iload2 dX12_comesTo_336 ?_
    refine z_callVv zmd_X12_become rfl (by decide) zl_RX12_219 zin_X12_become zsel_X12_become (R_X12_become (d := d - 1) hW _) hW.o rfl rfl (by omega) rfl dX12_comesTo_337 ?_
    refine z_iconst (v := 1) dX12_comesTo_340 (by decide) ?_
    refine z_iret dX12_comesTo_341 rfl ?_
    first
      | (rw [pcomes_8 (show pof M x 0 = 8 from c13_7)]; exact ⟨rfl, rfl, rfl, rfl, rfl⟩)
      | (rw [show pcomes M x v = (1, pbecome M v) from (if_neg nc13_0).trans ((if_neg nc13_1).trans ((if_neg nc13_2).trans ((if_neg nc13_3).trans ((if_neg nc13_4).trans ((if_neg nc13_5).trans ((if_neg nc13_6).trans ((if_neg nc13_8).trans ((if_neg nc13_9).trans ((if_neg nc13_10).trans ((if_neg nc13_11).trans ((if_neg nc13_12).trans ((if_neg nc13_13).trans (rfl)))))))))))))]; exact ⟨rfl, rfl, rfl, rfl, rfl⟩)
  refine ⟨fun c13_8 => ?_, fun nc13_8 => ?_⟩
  · show zS _ _ _ _ _ _ _ 254 _ _ _ _ _
    have kk : pof M x 0 = 9 := c13_8
    refine z_aload0 dX12_comesTo_254 ?_
    refine z_getRs fl_RX12_14 (by decide) hW.o (hW.r 1 rfl) dX12_comesTo_255 ?_
    refine z_sipush (v := 7230) dX12_comesTo_258 (by decide) ?_
    refine z_aload0 dX12_comesTo_261 ?_
    refine z_iload1 dX12_comesTo_262 ?_
    refine z_iconst (v := 4) dX12_comesTo_263 (by decide) ?_
    have h91 := (h9 kk).1.1
    refine z_callVi zmd_X12_of rfl (by decide) zl_RX12_213 zin_X12_of zsel_X12_of (R_X12_of (d := d - 1) hW _ hx _ (⟨by decide, by decide⟩ : iv 7 (4 : Int32))) hW.o rfl rfl (by omega) rfl dX12_comesTo_264 ?_
    refine z_iadd dX12_comesTo_267 ?_
    refine zr_ld hW (i := 1) rfl (by decide) (by decide) (ixA (ixC 7230) (h9 kk).1.2) (by omega) dX12_comesTo_268 ?_
    refine z_if_ne (tgt := 281) dX12_comesTo_269 (by decide) (fun c269 => ?_) (fun c269 => ?_)
    · show zS _ _ _ _ _ _ _ 281 _ _ _ _ _
      refine z_aload0 dX12_comesTo_281 ?_
      refine z_iload2 dX12_comesTo_282 ?_
      refine z_callVv zmd_X12_become rfl (by decide) zl_RX12_219 zin_X12_become zsel_X12_become (R_X12_become (d := d - 1) hW _) hW.o rfl rfl (by omega) rfl dX12_comesTo_283 ?_
      refine z_iconst (v := 1) dX12_comesTo_286 (by decide) ?_
      refine z_iret dX12_comesTo_287 rfl ?_
      rw [pcomes_9 kk]
      first | (rw [if_pos (by assumption)]; exact ⟨rfl, rfl, rfl, rfl, rfl⟩) | (rw [if_neg (by assumption)]; exact ⟨rfl, rfl, rfl, rfl, rfl⟩)
    · show zS _ _ _ _ _ _ _ 272 _ _ _ _ _
      refine z_aload0 dX12_comesTo_272 ?_
      refine z_iload1 dX12_comesTo_273 ?_
      refine z_iload2 dX12_comesTo_274 ?_
      refine z_callVv zmd_X12_executeFinalizer rfl (by decide) zl_RX12_244 zin_X12_executeFinalizer zsel_X12_executeFinalizer (R_X12_executeFinalizer (d := d - 1) hW _ _ ((h9 kk).2 c269) (by omega)) hW.o rfl rfl (by omega) rfl dX12_comesTo_275 ?_
      refine z_goto (tgt := 286) dX12_comesTo_278 (by decide) ?_
      show zS _ _ _ _ _ _ _ 286 _ _ _ _ _
      refine z_iconst (v := 1) dX12_comesTo_286 (by decide) ?_
      refine z_iret dX12_comesTo_287 rfl ?_
      rw [pcomes_9 kk]
      first | (rw [if_pos (by assumption)]; exact ⟨rfl, rfl, rfl, rfl, rfl⟩) | (rw [if_neg (by assumption)]; exact ⟨rfl, rfl, rfl, rfl, rfl⟩)
  refine ⟨fun c13_9 => ?_, fun nc13_9 => ?_⟩
  · show zS _ _ _ _ _ _ _ 288 _ _ _ _ _
    have kk : pof M x 0 = 10 := c13_9
    refine z_aload0 dX12_comesTo_288 ?_
    refine z_iload1 dX12_comesTo_289 ?_
    refine z_iload2 dX12_comesTo_290 ?_
    refine z_callVv zmd_X12_call rfl (by decide) zl_RX12_269 zin_X12_call zsel_X12_call (R_X12_call (d := d - 1) hW _ _ (h10 kk) (by omega)) hW.o rfl rfl (by omega) rfl dX12_comesTo_291 ?_
    refine z_iconst (v := 1) dX12_comesTo_294 (by decide) ?_
    refine z_iret dX12_comesTo_295 rfl ?_
    rw [pcomes_10 kk]
    exact ⟨rfl, rfl, rfl, rfl, rfl⟩
  refine ⟨fun c13_10 => ?_, fun nc13_10 => ?_⟩
  · show zS _ _ _ _ _ _ _ 296 _ _ _ _ _
    have kk : pof M x 0 = 11 := c13_10
    refine z_aload0 dX12_comesTo_296 ?_
    refine z_aload0 dX12_comesTo_297 ?_
    refine z_iload1 dX12_comesTo_298 ?_
    refine z_iconst (v := 4) dX12_comesTo_299 (by decide) ?_
    refine z_callVi zmd_X12_of rfl (by decide) zl_RX12_213 zin_X12_of zsel_X12_of (R_X12_of (d := d - 1) hW _ hx _ (⟨by decide, by decide⟩ : iv 7 (4 : Int32))) hW.o rfl rfl (by omega) rfl dX12_comesTo_300 ?_
    refine z_iload2 dX12_comesTo_303 ?_
    refine z_callVi zmd_X12_resumes rfl (by decide) zl_RX12_272 zin_X12_resumes zsel_X12_resumes (R_X12_resumes (d := d - 1) hW _ _ (h11 kk) (by omega)) hW.o rfl rfl (by omega) rfl dX12_comesTo_304 ?_
    refine z_iret dX12_comesTo_307 rfl ?_ (zn01 (presumes_01 _ _ _))
    rw [pcomes_11 kk]
    exact ⟨rfl, rfl, rfl, rfl, rfl⟩
  refine ⟨fun c13_11 => ?_, fun nc13_11 => ?_⟩
  · show zS _ _ _ _ _ _ _ 308 _ _ _ _ _
    have kk : pof M x 0 = 12 := c13_11
    refine z_aload0 dX12_comesTo_308 ?_
    refine z_iload1 dX12_comesTo_309 ?_
    refine z_iload2 dX12_comesTo_310 ?_
    refine z_callVv zmd_X12_leaveHandler rfl (by decide) zl_RX12_275 zin_X12_leaveHandler zsel_X12_leaveHandler (R_X12_leaveHandler (d := d - 1) hW _ _ (h12 kk) (by omega)) hW.o rfl rfl (by omega) rfl dX12_comesTo_311 ?_
    refine z_iconst (v := 1) dX12_comesTo_314 (by decide) ?_
    refine z_iret dX12_comesTo_315 rfl ?_
    rw [pcomes_12 kk]
    exact ⟨rfl, rfl, rfl, rfl, rfl⟩
  refine ⟨fun c13_12 => ?_, fun nc13_12 => ?_⟩
  · show zS _ _ _ _ _ _ _ 316 _ _ _ _ _
    have kk : pof M x 0 = 13 := c13_12
    refine z_aload0 dX12_comesTo_316 ?_
    refine z_aload0 dX12_comesTo_317 ?_
    refine z_iload1 dX12_comesTo_318 ?_
    refine z_iconst (v := 4) dX12_comesTo_319 (by decide) ?_
    refine z_callVi zmd_X12_of rfl (by decide) zl_RX12_213 zin_X12_of zsel_X12_of (R_X12_of (d := d - 1) hW _ hx _ (⟨by decide, by decide⟩ : iv 7 (4 : Int32))) hW.o rfl rfl (by omega) rfl dX12_comesTo_320 ?_
    refine z_callVv zmd_X12_become rfl (by decide) zl_RX12_219 zin_X12_become zsel_X12_become (R_X12_become (d := d - 1) hW _) hW.o rfl rfl (by omega) rfl dX12_comesTo_323 ?_
    refine z_iconst (v := 1) dX12_comesTo_326 (by decide) ?_
    refine z_iret dX12_comesTo_327 rfl ?_
    rw [pcomes_13 kk]
    exact ⟨rfl, rfl, rfl, rfl, rfl⟩
  refine ⟨fun c13_13 => ?_, fun nc13_13 => ?_⟩
  · show zS _ _ _ _ _ _ _ 328 _ _ _ _ _
    have kk : pof M x 0 = 14 := c13_13
    refine z_aload0 dX12_comesTo_328 ?_
    refine z_iload1 dX12_comesTo_329 ?_
    refine z_iload2 dX12_comesTo_330 ?_
    refine z_callVi zmd_X12_closesClause rfl (by decide) zl_RX12_278 zin_X12_closesClause zsel_X12_closesClause (R_X12_closesClause (d := d - 1) hW _ _ (h14 kk) (by omega)) hW.o rfl rfl (by omega) rfl dX12_comesTo_331 ?_
    refine z_iret dX12_comesTo_334 rfl ?_ (zn01 (pclose_01 _ _ _))
    rw [pcomes_14 kk]
    exact ⟨rfl, rfl, rfl, rfl, rfl⟩
  show zS _ _ _ _ _ _ _ 335 _ _ _ _ _
  refine z_aload0 dX12_comesTo_335 ?_
  refine z_iload2 dX12_comesTo_336 ?_
  refine z_callVv zmd_X12_become rfl (by decide) zl_RX12_219 zin_X12_become zsel_X12_become (R_X12_become (d := d - 1) hW _) hW.o rfl rfl (by omega) rfl dX12_comesTo_337 ?_
  refine z_iconst (v := 1) dX12_comesTo_340 (by decide) ?_
  refine z_iret dX12_comesTo_341 rfl ?_
  first
    | (rw [pcomes_8 (show pof M x 0 = 8 from c13_7)]; exact ⟨rfl, rfl, rfl, rfl, rfl⟩)
    | (rw [show pcomes M x v = (1, pbecome M v) from (if_neg nc13_0).trans ((if_neg nc13_1).trans ((if_neg nc13_2).trans ((if_neg nc13_3).trans ((if_neg nc13_4).trans ((if_neg nc13_5).trans ((if_neg nc13_6).trans ((if_neg nc13_8).trans ((if_neg nc13_9).trans ((if_neg nc13_10).trans ((if_neg nc13_11).trans ((if_neg nc13_12).trans ((if_neg nc13_13).trans (rfl)))))))))))))]; exact ⟨rfl, rfl, rfl, rfl, rfl⟩)
def pcl1 (M : zI) : zI := zup M 2 7 (pof M (M 2 7) 5)
def pcloses (M : zI) : Int32 × zI :=
  let q := pcomes (pcl1 M) (M 2 7) (pcl1 M 2 20)
  (q.1, zup q.2 2 7 (if q.1 = 0 then M 2 7 else q.2 2 7))
def pop1 (M : zI) : zI := let M1 := zup M 2 (7230 + tn (M 2 23)) 0; zup M1 2 23 (M1 2 23 + 1)
def popE (M : zI) : Int32 := if pkind M (M 2 17) = 14 then M 2 19 else 0
def popP (M : zI) (n x : Int32) : zI := let M2 := ppush M (pframeOf (pkind M n)) n (M 2 18) (M 2 19) x; zup M2 2 17 (ppart M2 n 1)
def popens (M : zI) : Int32 × zI :=
  if pkind M (M 2 17) = 0 then (1, pbecome M (parg M (M 2 17))) else if pkind M (M 2 17) = 1 then (1, pbecome M (pval M (parg M (M 2 17)))) else if pdepth M = 100 then (0, M) else
    (1, if pkind M (M 2 17) = 12 then popP (pop1 M) (M 2 17) (M 2 23) else popP M (M 2 17) (popE M))
def popensV (M : zI) : Prop := iv 65000 (M 2 17) ∧ (pkind M (M 2 17) = 1 → pvalV M (parg M (M 2 17)) 1201 (M 2 18)) ∧ vd 40000 (M 2 7) ∧ (pkind M (M 2 17) = 12 → iv 1200 (M 2 23)) ∧ iv 39999 (M 2 21)
def pstep (M : zI) : zI :=
  let q := if M 2 16 = 2 then popens M else pcloses M
  if q.1 = 0 then zup (zup q.2 2 5 4) 2 16 0 else pcheck (zup q.2 2 6 (q.2 2 6 + 1))
def pstepV (M : zI) : Prop := (M 2 16 = 2 → popensV M) ∧ (¬ M 2 16 = 2 → iv 40000 (M 2 7) ∧ pcomesV (pcl1 M) (M 2 7))
set_option maxRecDepth 20000 in
theorem R_X12_opens {l : Launch} {d : Nat} {D : zD} {b0 : Nat} {g : zG} {f M : zI} {o : Nat} (hW : RW b0 g o) (hV : popensV M) (hd : 3 ≤ d) : zM l d D b0 mX12_opens [.ref o] g (rv o f M) (zEx (some (.int ((popens M).1))) g (rv o f ((popens M).2))) := by
  obtain ⟨hn, hv, hT, hN, hF⟩ := hV
  have hF2 : ∀ y z, iv 39999 (zup (zup M 2 (7230 + tn (M 2 23)) y) 2 23 z 2 21) := fun y z => by rw [zup_ne _ _ _ _ (Or.inr (by decide)), zup_ne _ _ _ _ (Or.inr (by omega))]; exact hF
  have hT2 : ∀ y z, vd 40000 (zup (zup M 2 (7230 + tn (M 2 23)) y) 2 23 z 2 7) := fun y z => by rw [zup_ne _ _ _ _ (Or.inr (by decide)), zup_ne _ _ _ _ (Or.inr (by omega))]; exact hT
  refine zM.start zmd_X12_opens (Nat.le_of_ble_eq_true rfl) ⟨rfl, trivial⟩ [some (.ref o), none, none] rfl ?_
  refine z_aload0 dX12_opens_0 ?_
  refine z_getRs fl_RX12_14 (by decide) hW.o (hW.r 1 rfl) dX12_opens_1 ?_
  refine z_bipush (v := 17) dX12_opens_4 (by decide) ?_
  refine zr_ld hW (i := 1) rfl (by decide) (by decide) (ixC 17) (by decide) dX12_opens_6 ?_
  refine z_istore1 dX12_opens_7 ?_
  refine z_aload0 dX12_opens_8 ?_
  refine z_iload1 dX12_opens_9 ?_
  refine z_callVi zmd_X12_kind rfl (by decide) zl_RX12_134 zin_X12_kind zsel_X12_kind (R_X12_kind (d := d - 1) hW _ hn) hW.o rfl rfl (by omega) rfl dX12_opens_10 ?_
  refine z_if_ne (tgt := 27) dX12_opens_13 (by decide) (fun c13 => ?_) (fun c13 => ?_)
  · show zS _ _ _ _ _ _ _ 27 _ _ _ _ _
    refine z_aload0 dX12_opens_27 ?_
    refine z_iload1 dX12_opens_28 ?_
    refine z_callVi zmd_X12_kind rfl (by decide) zl_RX12_134 zin_X12_kind zsel_X12_kind (R_X12_kind (d := d - 1) hW _ hn) hW.o rfl rfl (by omega) rfl dX12_opens_29 ?_
    refine z_iconst (v := 1) dX12_opens_32 (by decide) ?_
    refine z_icmp_ne (tgt := 51) dX12_opens_33 (by decide) (fun c33 => ?_) (fun c33 => ?_)
    · show zS _ _ _ _ _ _ _ 51 _ _ _ _ _
      refine z_aload0 dX12_opens_51 ?_
      refine z_callVi zmd_X12_depth rfl (by decide) zl_RX12_216 zin_X12_depth zsel_X12_depth (R_X12_depth (d := d - 1) hW hT (by omega)) hW.o rfl rfl (by omega) rfl dX12_opens_52 ?_
      refine z_bipush (v := 100) dX12_opens_55 (by decide) ?_
      refine z_icmp_ne (tgt := 62) dX12_opens_57 (by decide) (fun c57 => ?_) (fun c57 => ?_)
      · show zS _ _ _ _ _ _ _ 62 _ _ _ _ _
        refine z_aload0 dX12_opens_62 ?_
        refine z_iload1 dX12_opens_63 ?_
        refine z_callVi zmd_X12_kind rfl (by decide) zl_RX12_134 zin_X12_kind zsel_X12_kind (R_X12_kind (d := d - 1) hW _ hn) hW.o rfl rfl (by omega) rfl dX12_opens_64 ?_
        refine z_bipush (v := 14) dX12_opens_67 (by decide) ?_
        refine z_icmp_ne (tgt := 82) dX12_opens_69 (by decide) (fun c69 => ?_) (fun c69 => ?_)
        · show zS _ _ _ _ _ _ _ 82 _ _ _ _ _
          refine z_iconst (v := 0) dX12_opens_82 (by decide) ?_
          refine z_istore2 dX12_opens_83 ?_
          refine z_aload0 dX12_opens_84 ?_
          refine z_iload1 dX12_opens_85 ?_
          refine z_callVi zmd_X12_kind rfl (by decide) zl_RX12_134 zin_X12_kind zsel_X12_kind (R_X12_kind (d := d - 1) hW _ hn) hW.o rfl rfl (by omega) rfl dX12_opens_86 ?_
          refine z_bipush (v := 12) dX12_opens_89 (by decide) ?_
          refine z_icmp_ne (tgt := 124) dX12_opens_91 (by decide) (fun c91 => ?_) (fun c91 => ?_)
          · show zS _ _ _ _ _ _ _ 124 _ _ _ _ _
            refine z_aload0 dX12_opens_124 ?_
            refine z_aload0 dX12_opens_125 ?_
            refine z_iload1 dX12_opens_126 ?_
            refine z_callVi zmd_X12_kind rfl (by decide) zl_RX12_134 zin_X12_kind zsel_X12_kind (R_X12_kind (d := d - 1) hW _ hn) hW.o rfl rfl (by omega) rfl dX12_opens_127 ?_
            refine z_callSi zmd_X12_frameOf zl_RX12_225 zst_X12_frameOf (R_X12_frameOf (d := d - 1) hW _) rfl rfl (by omega) rfl dX12_opens_130 ?_
            refine z_iload1 dX12_opens_133 ?_
            refine z_aload0 dX12_opens_134 ?_
            refine z_getRs fl_RX12_14 (by decide) hW.o (hW.r 1 rfl) dX12_opens_135 ?_
            refine z_bipush (v := 18) dX12_opens_138 (by decide) ?_
            refine zr_ld hW (i := 1) rfl (by decide) (by decide) (ixC 18) (by decide) dX12_opens_140 ?_
            refine z_aload0 dX12_opens_141 ?_
            show zS _ _ _ _ _ _ _ 142 _ _ _ _ _
            refine z_getRs fl_RX12_14 (by decide) hW.o (hW.r 1 rfl) dX12_opens_142 ?_
            refine z_bipush (v := 19) dX12_opens_145 (by decide) ?_
            refine zr_ld hW (i := 1) rfl (by decide) (by decide) (ixC 19) (by decide) dX12_opens_147 ?_
            refine z_iload2 dX12_opens_148 ?_
            refine z_callVv zmd_X12_push rfl (by decide) zl_RX12_228 zin_X12_push zsel_X12_push (R_X12_push (d := d - 1) hW _ _ _ _ _ (by first | exact hF | exact hF2 _ _) (by first | exact hT | exact hT2 _ _) (by omega)) hW.o rfl rfl (by omega) rfl dX12_opens_149 ?_
            refine z_aload0 dX12_opens_152 ?_
            refine z_getRs fl_RX12_14 (by decide) hW.o (hW.r 1 rfl) dX12_opens_153 ?_
            refine z_bipush (v := 17) dX12_opens_156 (by decide) ?_
            refine z_aload0 dX12_opens_158 ?_
            refine z_iload1 dX12_opens_159 ?_
            refine z_iconst (v := 1) dX12_opens_160 (by decide) ?_
            refine z_callVi zmd_X12_part rfl (by decide) zl_RX12_165 zin_X12_part zsel_X12_part (R_X12_part (d := d - 1) hW _ hn _ (⟨by decide, by decide⟩ : iv 4 (1 : Int32))) hW.o rfl rfl (by omega) rfl dX12_opens_161 ?_
            show zS _ _ _ _ _ _ _ 164 _ _ _ _ _
            refine zr_st hW (i := 1) rfl (by decide) (by decide) (ixC 17) (by decide) dX12_opens_164 ?_
            refine z_iconst (v := 1) dX12_opens_165 (by decide) ?_
            refine z_iret dX12_opens_166 rfl ?_
            first
              | (rw [show popens M = (1, popP (pop1 M) (M 2 17) (M 2 23)) from (if_neg c13).trans ((if_neg c33).trans ((if_neg c57).trans (congrArg (fun z => ((1 : Int32), z)) (if_pos c91))))]; exact ⟨rfl, rfl, rfl, rfl, rfl⟩)
              | (rw [show popens M = (1, popP M (M 2 17) (popE M)) from (if_neg c13).trans ((if_neg c33).trans ((if_neg c57).trans (congrArg (fun z => ((1 : Int32), z)) (if_neg c91))))]; first | (rw [show popE M = M 2 19 from if_pos c69]; exact ⟨rfl, rfl, rfl, rfl, rfl⟩) | (rw [show popE M = 0 from if_neg c69]; exact ⟨rfl, rfl, rfl, rfl, rfl⟩))
          · show zS _ _ _ _ _ _ _ 94 _ _ _ _ _
            refine z_aload0 dX12_opens_94 ?_
            refine z_getRs fl_RX12_14 (by decide) hW.o (hW.r 1 rfl) dX12_opens_95 ?_
            refine z_bipush (v := 23) dX12_opens_98 (by decide) ?_
            have hN1 := (hN c91).1
            refine zr_ld hW (i := 1) rfl (by decide) (by decide) (ixC 23) (by decide) dX12_opens_100 ?_
            refine z_istore2 dX12_opens_101 ?_
            refine z_aload0 dX12_opens_102 ?_
            refine z_getRs fl_RX12_14 (by decide) hW.o (hW.r 1 rfl) dX12_opens_103 ?_
            refine z_sipush (v := 7230) dX12_opens_106 (by decide) ?_
            refine z_iload2 dX12_opens_109 ?_
            refine z_iadd dX12_opens_110 ?_
            refine z_iconst (v := 0) dX12_opens_111 (by decide) ?_
            show zS _ _ _ _ _ _ _ 112 _ _ _ _ _
            refine zr_st hW (i := 1) rfl (by decide) (by decide) (ixA (ixC 7230) (hN c91).2) (by omega) dX12_opens_112 ?_
            refine z_aload0 dX12_opens_113 ?_
            refine z_getRs fl_RX12_14 (by decide) hW.o (hW.r 1 rfl) dX12_opens_114 ?_
            refine z_bipush (v := 23) dX12_opens_117 (by decide) ?_
            refine z_dup2 dX12_opens_119 ?_
            refine zr_ld hW (i := 1) rfl (by decide) (by decide) (ixC 23) (by decide) dX12_opens_120 ?_
            refine z_iconst (v := 1) dX12_opens_121 (by decide) ?_
            refine z_iadd dX12_opens_122 ?_
            refine zr_st hW (i := 1) rfl (by decide) (by decide) (ixC 23) (by decide) dX12_opens_123 ?_
            refine z_aload0 dX12_opens_124 ?_
            refine z_aload0 dX12_opens_125 ?_
            refine z_iload1 dX12_opens_126 ?_
            show zS _ _ _ _ _ _ _ 127 _ _ _ _ _
            refine z_callVi zmd_X12_kind rfl (by decide) zl_RX12_134 zin_X12_kind zsel_X12_kind (R_X12_kind (d := d - 1) hW _ hn) hW.o rfl rfl (by omega) rfl dX12_opens_127 ?_
            refine z_callSi zmd_X12_frameOf zl_RX12_225 zst_X12_frameOf (R_X12_frameOf (d := d - 1) hW _) rfl rfl (by omega) rfl dX12_opens_130 ?_
            refine z_iload1 dX12_opens_133 ?_
            refine z_aload0 dX12_opens_134 ?_
            refine z_getRs fl_RX12_14 (by decide) hW.o (hW.r 1 rfl) dX12_opens_135 ?_
            refine z_bipush (v := 18) dX12_opens_138 (by decide) ?_
            refine zr_ld hW (i := 1) rfl (by decide) (by decide) (ixC 18) (by decide) dX12_opens_140 ?_
            refine z_aload0 dX12_opens_141 ?_
            refine z_getRs fl_RX12_14 (by decide) hW.o (hW.r 1 rfl) dX12_opens_142 ?_
            refine z_bipush (v := 19) dX12_opens_145 (by decide) ?_
            refine zr_ld hW (i := 1) rfl (by decide) (by decide) (ixC 19) (by decide) dX12_opens_147 ?_
            refine z_iload2 dX12_opens_148 ?_
            show zS _ _ _ _ _ _ _ 149 _ _ _ _ _
            refine z_callVv zmd_X12_push rfl (by decide) zl_RX12_228 zin_X12_push zsel_X12_push (R_X12_push (d := d - 1) hW _ _ _ _ _ (by first | exact hF | exact hF2 _ _) (by first | exact hT | exact hT2 _ _) (by omega)) hW.o rfl rfl (by omega) rfl dX12_opens_149 ?_
            refine z_aload0 dX12_opens_152 ?_
            refine z_getRs fl_RX12_14 (by decide) hW.o (hW.r 1 rfl) dX12_opens_153 ?_
            refine z_bipush (v := 17) dX12_opens_156 (by decide) ?_
            refine z_aload0 dX12_opens_158 ?_
            refine z_iload1 dX12_opens_159 ?_
            refine z_iconst (v := 1) dX12_opens_160 (by decide) ?_
            refine z_callVi zmd_X12_part rfl (by decide) zl_RX12_165 zin_X12_part zsel_X12_part (R_X12_part (d := d - 1) hW _ hn _ (⟨by decide, by decide⟩ : iv 4 (1 : Int32))) hW.o rfl rfl (by omega) rfl dX12_opens_161 ?_
            refine zr_st hW (i := 1) rfl (by decide) (by decide) (ixC 17) (by decide) dX12_opens_164 ?_
            refine z_iconst (v := 1) dX12_opens_165 (by decide) ?_
            refine z_iret dX12_opens_166 rfl ?_
            first
              | (rw [show popens M = (1, popP (pop1 M) (M 2 17) (M 2 23)) from (if_neg c13).trans ((if_neg c33).trans ((if_neg c57).trans (congrArg (fun z => ((1 : Int32), z)) (if_pos c91))))]; exact ⟨rfl, rfl, rfl, rfl, rfl⟩)
              | (rw [show popens M = (1, popP M (M 2 17) (popE M)) from (if_neg c13).trans ((if_neg c33).trans ((if_neg c57).trans (congrArg (fun z => ((1 : Int32), z)) (if_neg c91))))]; first | (rw [show popE M = M 2 19 from if_pos c69]; exact ⟨rfl, rfl, rfl, rfl, rfl⟩) | (rw [show popE M = 0 from if_neg c69]; exact ⟨rfl, rfl, rfl, rfl, rfl⟩))
        · show zS _ _ _ _ _ _ _ 72 _ _ _ _ _
          refine z_aload0 dX12_opens_72 ?_
          refine z_getRs fl_RX12_14 (by decide) hW.o (hW.r 1 rfl) dX12_opens_73 ?_
          refine z_bipush (v := 19) dX12_opens_76 (by decide) ?_
          refine zr_ld hW (i := 1) rfl (by decide) (by decide) (ixC 19) (by decide) dX12_opens_78 ?_
          refine z_goto (tgt := 83) dX12_opens_79 (by decide) ?_
          show zS _ _ _ _ _ _ _ 83 _ _ _ _ _
          refine z_istore2 dX12_opens_83 ?_
          refine z_aload0 dX12_opens_84 ?_
          refine z_iload1 dX12_opens_85 ?_
          refine z_callVi zmd_X12_kind rfl (by decide) zl_RX12_134 zin_X12_kind zsel_X12_kind (R_X12_kind (d := d - 1) hW _ hn) hW.o rfl rfl (by omega) rfl dX12_opens_86 ?_
          refine z_bipush (v := 12) dX12_opens_89 (by decide) ?_
          refine z_icmp_ne (tgt := 124) dX12_opens_91 (by decide) (fun c91 => ?_) (fun c91 => ?_)
          · show zS _ _ _ _ _ _ _ 124 _ _ _ _ _
            refine z_aload0 dX12_opens_124 ?_
            refine z_aload0 dX12_opens_125 ?_
            refine z_iload1 dX12_opens_126 ?_
            refine z_callVi zmd_X12_kind rfl (by decide) zl_RX12_134 zin_X12_kind zsel_X12_kind (R_X12_kind (d := d - 1) hW _ hn) hW.o rfl rfl (by omega) rfl dX12_opens_127 ?_
            refine z_callSi zmd_X12_frameOf zl_RX12_225 zst_X12_frameOf (R_X12_frameOf (d := d - 1) hW _) rfl rfl (by omega) rfl dX12_opens_130 ?_
            refine z_iload1 dX12_opens_133 ?_
            refine z_aload0 dX12_opens_134 ?_
            refine z_getRs fl_RX12_14 (by decide) hW.o (hW.r 1 rfl) dX12_opens_135 ?_
            refine z_bipush (v := 18) dX12_opens_138 (by decide) ?_
            refine zr_ld hW (i := 1) rfl (by decide) (by decide) (ixC 18) (by decide) dX12_opens_140 ?_
            refine z_aload0 dX12_opens_141 ?_
            show zS _ _ _ _ _ _ _ 142 _ _ _ _ _
            refine z_getRs fl_RX12_14 (by decide) hW.o (hW.r 1 rfl) dX12_opens_142 ?_
            refine z_bipush (v := 19) dX12_opens_145 (by decide) ?_
            refine zr_ld hW (i := 1) rfl (by decide) (by decide) (ixC 19) (by decide) dX12_opens_147 ?_
            refine z_iload2 dX12_opens_148 ?_
            refine z_callVv zmd_X12_push rfl (by decide) zl_RX12_228 zin_X12_push zsel_X12_push (R_X12_push (d := d - 1) hW _ _ _ _ _ (by first | exact hF | exact hF2 _ _) (by first | exact hT | exact hT2 _ _) (by omega)) hW.o rfl rfl (by omega) rfl dX12_opens_149 ?_
            refine z_aload0 dX12_opens_152 ?_
            refine z_getRs fl_RX12_14 (by decide) hW.o (hW.r 1 rfl) dX12_opens_153 ?_
            refine z_bipush (v := 17) dX12_opens_156 (by decide) ?_
            refine z_aload0 dX12_opens_158 ?_
            refine z_iload1 dX12_opens_159 ?_
            refine z_iconst (v := 1) dX12_opens_160 (by decide) ?_
            refine z_callVi zmd_X12_part rfl (by decide) zl_RX12_165 zin_X12_part zsel_X12_part (R_X12_part (d := d - 1) hW _ hn _ (⟨by decide, by decide⟩ : iv 4 (1 : Int32))) hW.o rfl rfl (by omega) rfl dX12_opens_161 ?_
            show zS _ _ _ _ _ _ _ 164 _ _ _ _ _
            refine zr_st hW (i := 1) rfl (by decide) (by decide) (ixC 17) (by decide) dX12_opens_164 ?_
            refine z_iconst (v := 1) dX12_opens_165 (by decide) ?_
            refine z_iret dX12_opens_166 rfl ?_
            first
              | (rw [show popens M = (1, popP (pop1 M) (M 2 17) (M 2 23)) from (if_neg c13).trans ((if_neg c33).trans ((if_neg c57).trans (congrArg (fun z => ((1 : Int32), z)) (if_pos c91))))]; exact ⟨rfl, rfl, rfl, rfl, rfl⟩)
              | (rw [show popens M = (1, popP M (M 2 17) (popE M)) from (if_neg c13).trans ((if_neg c33).trans ((if_neg c57).trans (congrArg (fun z => ((1 : Int32), z)) (if_neg c91))))]; first | (rw [show popE M = M 2 19 from if_pos c69]; exact ⟨rfl, rfl, rfl, rfl, rfl⟩) | (rw [show popE M = 0 from if_neg c69]; exact ⟨rfl, rfl, rfl, rfl, rfl⟩))
          · show zS _ _ _ _ _ _ _ 94 _ _ _ _ _
            refine z_aload0 dX12_opens_94 ?_
            refine z_getRs fl_RX12_14 (by decide) hW.o (hW.r 1 rfl) dX12_opens_95 ?_
            refine z_bipush (v := 23) dX12_opens_98 (by decide) ?_
            have hN1 := (hN c91).1
            refine zr_ld hW (i := 1) rfl (by decide) (by decide) (ixC 23) (by decide) dX12_opens_100 ?_
            refine z_istore2 dX12_opens_101 ?_
            refine z_aload0 dX12_opens_102 ?_
            refine z_getRs fl_RX12_14 (by decide) hW.o (hW.r 1 rfl) dX12_opens_103 ?_
            refine z_sipush (v := 7230) dX12_opens_106 (by decide) ?_
            refine z_iload2 dX12_opens_109 ?_
            refine z_iadd dX12_opens_110 ?_
            refine z_iconst (v := 0) dX12_opens_111 (by decide) ?_
            show zS _ _ _ _ _ _ _ 112 _ _ _ _ _
            refine zr_st hW (i := 1) rfl (by decide) (by decide) (ixA (ixC 7230) (hN c91).2) (by omega) dX12_opens_112 ?_
            refine z_aload0 dX12_opens_113 ?_
            refine z_getRs fl_RX12_14 (by decide) hW.o (hW.r 1 rfl) dX12_opens_114 ?_
            refine z_bipush (v := 23) dX12_opens_117 (by decide) ?_
            refine z_dup2 dX12_opens_119 ?_
            refine zr_ld hW (i := 1) rfl (by decide) (by decide) (ixC 23) (by decide) dX12_opens_120 ?_
            refine z_iconst (v := 1) dX12_opens_121 (by decide) ?_
            refine z_iadd dX12_opens_122 ?_
            refine zr_st hW (i := 1) rfl (by decide) (by decide) (ixC 23) (by decide) dX12_opens_123 ?_
            refine z_aload0 dX12_opens_124 ?_
            refine z_aload0 dX12_opens_125 ?_
            refine z_iload1 dX12_opens_126 ?_
            show zS _ _ _ _ _ _ _ 127 _ _ _ _ _
            refine z_callVi zmd_X12_kind rfl (by decide) zl_RX12_134 zin_X12_kind zsel_X12_kind (R_X12_kind (d := d - 1) hW _ hn) hW.o rfl rfl (by omega) rfl dX12_opens_127 ?_
            refine z_callSi zmd_X12_frameOf zl_RX12_225 zst_X12_frameOf (R_X12_frameOf (d := d - 1) hW _) rfl rfl (by omega) rfl dX12_opens_130 ?_
            refine z_iload1 dX12_opens_133 ?_
            refine z_aload0 dX12_opens_134 ?_
            refine z_getRs fl_RX12_14 (by decide) hW.o (hW.r 1 rfl) dX12_opens_135 ?_
            refine z_bipush (v := 18) dX12_opens_138 (by decide) ?_
            refine zr_ld hW (i := 1) rfl (by decide) (by decide) (ixC 18) (by decide) dX12_opens_140 ?_
            refine z_aload0 dX12_opens_141 ?_
            refine z_getRs fl_RX12_14 (by decide) hW.o (hW.r 1 rfl) dX12_opens_142 ?_
            refine z_bipush (v := 19) dX12_opens_145 (by decide) ?_
            refine zr_ld hW (i := 1) rfl (by decide) (by decide) (ixC 19) (by decide) dX12_opens_147 ?_
            refine z_iload2 dX12_opens_148 ?_
            show zS _ _ _ _ _ _ _ 149 _ _ _ _ _
            refine z_callVv zmd_X12_push rfl (by decide) zl_RX12_228 zin_X12_push zsel_X12_push (R_X12_push (d := d - 1) hW _ _ _ _ _ (by first | exact hF | exact hF2 _ _) (by first | exact hT | exact hT2 _ _) (by omega)) hW.o rfl rfl (by omega) rfl dX12_opens_149 ?_
            refine z_aload0 dX12_opens_152 ?_
            refine z_getRs fl_RX12_14 (by decide) hW.o (hW.r 1 rfl) dX12_opens_153 ?_
            refine z_bipush (v := 17) dX12_opens_156 (by decide) ?_
            refine z_aload0 dX12_opens_158 ?_
            refine z_iload1 dX12_opens_159 ?_
            refine z_iconst (v := 1) dX12_opens_160 (by decide) ?_
            refine z_callVi zmd_X12_part rfl (by decide) zl_RX12_165 zin_X12_part zsel_X12_part (R_X12_part (d := d - 1) hW _ hn _ (⟨by decide, by decide⟩ : iv 4 (1 : Int32))) hW.o rfl rfl (by omega) rfl dX12_opens_161 ?_
            refine zr_st hW (i := 1) rfl (by decide) (by decide) (ixC 17) (by decide) dX12_opens_164 ?_
            refine z_iconst (v := 1) dX12_opens_165 (by decide) ?_
            refine z_iret dX12_opens_166 rfl ?_
            first
              | (rw [show popens M = (1, popP (pop1 M) (M 2 17) (M 2 23)) from (if_neg c13).trans ((if_neg c33).trans ((if_neg c57).trans (congrArg (fun z => ((1 : Int32), z)) (if_pos c91))))]; exact ⟨rfl, rfl, rfl, rfl, rfl⟩)
              | (rw [show popens M = (1, popP M (M 2 17) (popE M)) from (if_neg c13).trans ((if_neg c33).trans ((if_neg c57).trans (congrArg (fun z => ((1 : Int32), z)) (if_neg c91))))]; first | (rw [show popE M = M 2 19 from if_pos c69]; exact ⟨rfl, rfl, rfl, rfl, rfl⟩) | (rw [show popE M = 0 from if_neg c69]; exact ⟨rfl, rfl, rfl, rfl, rfl⟩))
      · show zS _ _ _ _ _ _ _ 60 _ _ _ _ _
        refine z_iconst (v := 0) dX12_opens_60 (by decide) ?_
        refine z_iret dX12_opens_61 rfl ?_
        rw [show popens M = _ from (if_neg c13).trans ((if_neg c33).trans (if_pos c57))]
        exact ⟨rfl, rfl, rfl, rfl, rfl⟩
    · show zS _ _ _ _ _ _ _ 36 _ _ _ _ _
      refine z_aload0 dX12_opens_36 ?_
      refine z_aload0 dX12_opens_37 ?_
      refine z_aload0 dX12_opens_38 ?_
      refine z_iload1 dX12_opens_39 ?_
      refine z_callVi zmd_X12_argument rfl (by decide) zl_RX12_137 zin_X12_argument zsel_X12_argument (R_X12_argument (d := d - 1) hW _ hn) hW.o rfl rfl (by omega) rfl dX12_opens_40 ?_
      refine z_callVi zmd_X12_valueOf rfl (by decide) zl_RX12_222 zin_X12_valueOf zsel_X12_valueOf (R_X12_valueOf (d := d - 1) hW _ (hv c33)) hW.o rfl rfl (by omega) rfl dX12_opens_43 ?_
      refine z_callVv zmd_X12_become rfl (by decide) zl_RX12_219 zin_X12_become zsel_X12_become (R_X12_become (d := d - 1) hW _) hW.o rfl rfl (by omega) rfl dX12_opens_46 ?_
      refine z_iconst (v := 1) dX12_opens_49 (by decide) ?_
      refine z_iret dX12_opens_50 rfl ?_
      rw [show popens M = _ from (if_neg c13).trans (if_pos c33)]
      exact ⟨rfl, rfl, rfl, rfl, rfl⟩
  · show zS _ _ _ _ _ _ _ 16 _ _ _ _ _
    refine z_aload0 dX12_opens_16 ?_
    refine z_aload0 dX12_opens_17 ?_
    refine z_iload1 dX12_opens_18 ?_
    refine z_callVi zmd_X12_argument rfl (by decide) zl_RX12_137 zin_X12_argument zsel_X12_argument (R_X12_argument (d := d - 1) hW _ hn) hW.o rfl rfl (by omega) rfl dX12_opens_19 ?_
    refine z_callVv zmd_X12_become rfl (by decide) zl_RX12_219 zin_X12_become zsel_X12_become (R_X12_become (d := d - 1) hW _) hW.o rfl rfl (by omega) rfl dX12_opens_22 ?_
    refine z_iconst (v := 1) dX12_opens_25 (by decide) ?_
    refine z_iret dX12_opens_26 rfl ?_
    rw [show popens M = _ from if_pos c13]
    exact ⟨rfl, rfl, rfl, rfl, rfl⟩
set_option maxRecDepth 20000 in
theorem R_X12_closes {l : Launch} {d : Nat} {D : zD} {b0 : Nat} {g : zG} {f M : zI} {o : Nat} (hW : RW b0 g o) (hx : iv 40000 (M 2 7)) (hV : pcomesV (pcl1 M) (M 2 7)) (hd : 6 ≤ d) : zM l d D b0 mX12_closes [.ref o] g (rv o f M) (zEx (some (.int ((pcloses M).1))) g (rv o f ((pcloses M).2))) := by
  refine zM.start zmd_X12_closes (Nat.le_of_ble_eq_true rfl) ⟨rfl, trivial⟩ [some (.ref o), none, none] rfl ?_
  refine z_aload0 dX12_closes_0 ?_
  refine z_getRs fl_RX12_14 (by decide) hW.o (hW.r 1 rfl) dX12_closes_1 ?_
  refine z_bipush (v := 7) dX12_closes_4 (by decide) ?_
  refine zr_ld hW (i := 1) rfl (by decide) (by decide) (ixC 7) (by decide) dX12_closes_6 ?_
  refine z_istore1 dX12_closes_7 ?_
  refine z_aload0 dX12_closes_8 ?_
  refine z_getRs fl_RX12_14 (by decide) hW.o (hW.r 1 rfl) dX12_closes_9 ?_
  refine z_bipush (v := 7) dX12_closes_12 (by decide) ?_
  refine z_aload0 dX12_closes_14 ?_
  refine z_iload1 dX12_closes_15 ?_
  refine z_iconst (v := 5) dX12_closes_16 (by decide) ?_
  show zS _ _ _ _ _ _ _ 17 _ _ _ _ _
  refine z_callVi zmd_X12_of rfl (by decide) zl_RX12_213 zin_X12_of zsel_X12_of (R_X12_of (d := d - 1) hW _ hx _ (⟨by decide, by decide⟩ : iv 7 (5 : Int32))) hW.o rfl rfl (by omega) rfl dX12_closes_17 ?_
  refine zr_st hW (i := 1) rfl (by decide) (by decide) (ixC 7) (by decide) dX12_closes_20 ?_
  refine z_aload0 dX12_closes_21 ?_
  refine z_iload1 dX12_closes_22 ?_
  refine z_aload0 dX12_closes_23 ?_
  refine z_getRs fl_RX12_14 (by decide) hW.o (hW.r 1 rfl) dX12_closes_24 ?_
  refine z_bipush (v := 20) dX12_closes_27 (by decide) ?_
  refine zr_ld hW (i := 1) rfl (by decide) (by decide) (ixC 20) (by decide) dX12_closes_29 ?_
  refine z_callVi zmd_X12_comesTo rfl (by decide) zl_RX12_281 zin_X12_comesTo zsel_X12_comesTo (R_X12_comesTo (d := d - 1) hW _ _ hV (by omega)) hW.o rfl rfl (by omega) rfl dX12_closes_30 ?_
  refine z_istore2 dX12_closes_33 ?_
  refine z_aload0 dX12_closes_34 ?_
  refine z_getRs fl_RX12_14 (by decide) hW.o (hW.r 1 rfl) dX12_closes_35 ?_
  show zS _ _ _ _ _ _ _ 38 _ _ _ _ _
  refine z_bipush (v := 7) dX12_closes_38 (by decide) ?_
  refine z_iload2 dX12_closes_40 ?_
  refine z_if_eq (tgt := 54) dX12_closes_41 (by decide) (fun c41 => ?_) (fun c41 => ?_)
  · show zS _ _ _ _ _ _ _ 54 _ _ _ _ _
    refine z_iload1 dX12_closes_54 ?_
    refine zr_st hW (i := 1) rfl (by decide) (by decide) (ixC 7) (by decide) dX12_closes_55 ?_
    refine z_iload2 dX12_closes_56 ?_
    refine z_iret dX12_closes_57 rfl ?_ (zn01 (pcomes_01 _ _ _))
    refine ⟨rfl, rfl, ?_, rfl, rfl⟩
    first | exact congrArg (fun z => rv o f (zup _ 2 7 z)) (if_neg (by assumption)).symm | exact congrArg (fun z => rv o f (zup _ 2 7 z)) (if_pos (by assumption)).symm
  · show zS _ _ _ _ _ _ _ 44 _ _ _ _ _
    refine z_aload0 dX12_closes_44 ?_
    refine z_getRs fl_RX12_14 (by decide) hW.o (hW.r 1 rfl) dX12_closes_45 ?_
    refine z_bipush (v := 7) dX12_closes_48 (by decide) ?_
    refine zr_ld hW (i := 1) rfl (by decide) (by decide) (ixC 7) (by decide) dX12_closes_50 ?_
    refine z_goto (tgt := 55) dX12_closes_51 (by decide) ?_
    show zS _ _ _ _ _ _ _ 55 _ _ _ _ _
    refine zr_st hW (i := 1) rfl (by decide) (by decide) (ixC 7) (by decide) dX12_closes_55 ?_
    refine z_iload2 dX12_closes_56 ?_
    refine z_iret dX12_closes_57 rfl ?_ (zn01 (pcomes_01 _ _ _))
    refine ⟨rfl, rfl, ?_, rfl, rfl⟩
    first | exact congrArg (fun z => rv o f (zup _ 2 7 z)) (if_neg (by assumption)).symm | exact congrArg (fun z => rv o f (zup _ 2 7 z)) (if_pos (by assumption)).symm
set_option maxRecDepth 20000 in
theorem R_X12_step {l : Launch} {d : Nat} {D : zD} {b0 : Nat} {g : zG} {f M : zI} {o : Nat} (hW : RW b0 g o) (hV : pstepV M) (hd : 7 ≤ d) : zM l d D b0 mX12_step [.ref o] g (rv o f M) (zEx none g (rv o f (pstep M))) := by
  refine zM.start zmd_X12_step (Nat.le_of_ble_eq_true rfl) ⟨rfl, trivial⟩ [some (.ref o), none] rfl ?_
  refine z_aload0 dX12_step_0 ?_
  refine z_getRs fl_RX12_14 (by decide) hW.o (hW.r 1 rfl) dX12_step_1 ?_
  refine z_bipush (v := 16) dX12_step_4 (by decide) ?_
  refine zr_ld hW (i := 1) rfl (by decide) (by decide) (ixC 16) (by decide) dX12_step_6 ?_
  refine z_iconst (v := 2) dX12_step_7 (by decide) ?_
  refine z_icmp_ne (tgt := 18) dX12_step_8 (by decide) (fun c8 => ?_) (fun c8 => ?_)
  · show zS _ _ _ _ _ _ _ 18 _ _ _ _ _
    refine z_aload0 dX12_step_18 ?_
    refine z_callVi zmd_X12_closes rfl (by decide) zl_RX12_287 zin_X12_closes zsel_X12_closes (R_X12_closes (d := d - 1) hW (hV.2 c8).1 (hV.2 c8).2 (by omega)) hW.o rfl rfl (by omega) rfl dX12_step_19 ?_
    refine z_istore1 dX12_step_22 ?_
    refine z_iload1 dX12_step_23 ?_
    refine z_if_ne (tgt := 43) dX12_step_24 (by decide) (fun c24 => ?_) (fun c24 => ?_)
    · show zS _ _ _ _ _ _ _ 43 _ _ _ _ _
      refine z_aload0 dX12_step_43 ?_
      refine z_getRs fl_RX12_14 (by decide) hW.o (hW.r 1 rfl) dX12_step_44 ?_
      refine z_bipush (v := 6) dX12_step_47 (by decide) ?_
      refine z_dup2 dX12_step_49 ?_
      refine zr_ld hW (i := 1) rfl (by decide) (by decide) (ixC 6) (by decide) dX12_step_50 ?_
      refine z_iconst (v := 1) dX12_step_51 (by decide) ?_
      refine z_iadd dX12_step_52 ?_
      refine zr_st hW (i := 1) rfl (by decide) (by decide) (ixC 6) (by decide) dX12_step_53 ?_
      refine z_aload0 dX12_step_54 ?_
      refine z_callVv zmd_X12_checkSteps rfl (by decide) zl_RX12_290 zin_X12_checkSteps zsel_X12_checkSteps (R_X12_checkSteps (d := d - 1) hW ) hW.o rfl rfl (by omega) rfl dX12_step_55 ?_
      refine z_ret dX12_step_58 rfl ?_
      refine ⟨rfl, rfl, ?_, rfl, rfl⟩
      first
        | (rw [show pstep M = _ from by unfold pstep; simp only [if_pos c8]; first | exact if_pos c24 | exact if_neg c24])
        | (rw [show pstep M = _ from by unfold pstep; simp only [if_neg c8]; first | exact if_pos c24 | exact if_neg c24])
    · show zS _ _ _ _ _ _ _ 27 _ _ _ _ _
      refine z_aload0 dX12_step_27 ?_
      refine z_getRs fl_RX12_14 (by decide) hW.o (hW.r 1 rfl) dX12_step_28 ?_
      refine z_iconst (v := 5) dX12_step_31 (by decide) ?_
      refine z_iconst (v := 4) dX12_step_32 (by decide) ?_
      refine zr_st hW (i := 1) rfl (by decide) (by decide) (ixC 5) (by decide) dX12_step_33 ?_
      refine z_aload0 dX12_step_34 ?_
      refine z_getRs fl_RX12_14 (by decide) hW.o (hW.r 1 rfl) dX12_step_35 ?_
      refine z_bipush (v := 16) dX12_step_38 (by decide) ?_
      refine z_iconst (v := 0) dX12_step_40 (by decide) ?_
      refine zr_st hW (i := 1) rfl (by decide) (by decide) (ixC 16) (by decide) dX12_step_41 ?_
      refine z_ret dX12_step_42 rfl ?_
      refine ⟨rfl, rfl, ?_, rfl, rfl⟩
      first
        | (rw [show pstep M = _ from by unfold pstep; simp only [if_pos c8]; first | exact if_pos c24 | exact if_neg c24])
        | (rw [show pstep M = _ from by unfold pstep; simp only [if_neg c8]; first | exact if_pos c24 | exact if_neg c24])
  · show zS _ _ _ _ _ _ _ 11 _ _ _ _ _
    refine z_aload0 dX12_step_11 ?_
    refine z_callVi zmd_X12_opens rfl (by decide) zl_RX12_284 zin_X12_opens zsel_X12_opens (R_X12_opens (d := d - 1) hW (hV.1 c8) (by omega)) hW.o rfl rfl (by omega) rfl dX12_step_12 ?_
    refine z_goto (tgt := 22) dX12_step_15 (by decide) ?_
    show zS _ _ _ _ _ _ _ 22 _ _ _ _ _
    refine z_istore1 dX12_step_22 ?_
    refine z_iload1 dX12_step_23 ?_
    refine z_if_ne (tgt := 43) dX12_step_24 (by decide) (fun c24 => ?_) (fun c24 => ?_)
    · show zS _ _ _ _ _ _ _ 43 _ _ _ _ _
      refine z_aload0 dX12_step_43 ?_
      refine z_getRs fl_RX12_14 (by decide) hW.o (hW.r 1 rfl) dX12_step_44 ?_
      refine z_bipush (v := 6) dX12_step_47 (by decide) ?_
      refine z_dup2 dX12_step_49 ?_
      refine zr_ld hW (i := 1) rfl (by decide) (by decide) (ixC 6) (by decide) dX12_step_50 ?_
      refine z_iconst (v := 1) dX12_step_51 (by decide) ?_
      refine z_iadd dX12_step_52 ?_
      refine zr_st hW (i := 1) rfl (by decide) (by decide) (ixC 6) (by decide) dX12_step_53 ?_
      refine z_aload0 dX12_step_54 ?_
      refine z_callVv zmd_X12_checkSteps rfl (by decide) zl_RX12_290 zin_X12_checkSteps zsel_X12_checkSteps (R_X12_checkSteps (d := d - 1) hW ) hW.o rfl rfl (by omega) rfl dX12_step_55 ?_
      refine z_ret dX12_step_58 rfl ?_
      refine ⟨rfl, rfl, ?_, rfl, rfl⟩
      first
        | (rw [show pstep M = _ from by unfold pstep; simp only [if_pos c8]; first | exact if_pos c24 | exact if_neg c24])
        | (rw [show pstep M = _ from by unfold pstep; simp only [if_neg c8]; first | exact if_pos c24 | exact if_neg c24])
    · show zS _ _ _ _ _ _ _ 27 _ _ _ _ _
      refine z_aload0 dX12_step_27 ?_
      refine z_getRs fl_RX12_14 (by decide) hW.o (hW.r 1 rfl) dX12_step_28 ?_
      refine z_iconst (v := 5) dX12_step_31 (by decide) ?_
      refine z_iconst (v := 4) dX12_step_32 (by decide) ?_
      refine zr_st hW (i := 1) rfl (by decide) (by decide) (ixC 5) (by decide) dX12_step_33 ?_
      refine z_aload0 dX12_step_34 ?_
      refine z_getRs fl_RX12_14 (by decide) hW.o (hW.r 1 rfl) dX12_step_35 ?_
      refine z_bipush (v := 16) dX12_step_38 (by decide) ?_
      refine z_iconst (v := 0) dX12_step_40 (by decide) ?_
      refine zr_st hW (i := 1) rfl (by decide) (by decide) (ixC 16) (by decide) dX12_step_41 ?_
      refine z_ret dX12_step_42 rfl ?_
      refine ⟨rfl, rfl, ?_, rfl, rfl⟩
      first
        | (rw [show pstep M = _ from by unfold pstep; simp only [if_pos c8]; first | exact if_pos c24 | exact if_neg c24])
        | (rw [show pstep M = _ from by unfold pstep; simp only [if_neg c8]; first | exact if_pos c24 | exact if_neg c24])
def prunA : Nat → zI → zI
  | 0, M => M
  | k + 1, M => if M 2 5 = 1 then prunA k (pstep M) else M
def prunV : Nat → zI → Prop
  | 0, _ => True
  | k + 1, M => M 2 5 = 1 → pstepV M ∧ prunV k (pstep M)
set_option maxRecDepth 20000 in
theorem Rl_X12_run {l : Launch} {d : Nat} {D : zD} {b0 : Nat} {g : zG} {f : zI} {o : Nat} (hW : RW b0 g o) (n : Nat) (hn : n ≤ 200) (hd : 8 ≤ d) : ∀ (j : Nat) (M : zI) (k : Nat), k + j = n → prunV j M → zS l d D b0 mX12_run 0 0 28 [some (.ref o), some (.int (nI n)), some (.int (nI k))] [] g (rv o f M) (zq D b0 (zEx (some (.int (prunA j M 2 5))) g (rv o f (prunA j M)))) := by
  intro j
  induction j with
  | zero =>
    intro M k hk hV
    refine z_iload2 dX12_run_28 ?_
    refine z_iload1 dX12_run_29 ?_
    refine z_icmp_ge (tgt := 53) dX12_run_30 (by decide) (fun c30 => ?_) (fun c30 => absurd c30 (nI_nlt (by omega) (by omega)))
    show zS _ _ _ _ _ _ _ 53 _ _ _ _ _
    refine z_aload0 dX12_run_53 ?_
    refine z_getRs fl_RX12_14 (by decide) hW.o (hW.r 1 rfl) dX12_run_54 ?_
    refine z_iconst (v := 5) dX12_run_57 (by decide) ?_
    refine zr_ld hW (i := 1) rfl (by decide) (by decide) (ixC 5) (by decide) dX12_run_58 ?_
    refine z_iret dX12_run_59 rfl ?_
    exact ⟨rfl, rfl, rfl, rfl, rfl⟩
  | succ j ih =>
    intro M k hk hV
    refine z_iload2 dX12_run_28 ?_
    refine z_iload1 dX12_run_29 ?_
    refine z_icmp_ge (tgt := 53) dX12_run_30 (by decide) (fun c30 => absurd (nI_lt (by omega) (by omega)) c30) (fun c30 => ?_)
    show zS _ _ _ _ _ _ _ 33 _ _ _ _ _
    refine z_aload0 dX12_run_33 ?_
    refine z_getRs fl_RX12_14 (by decide) hW.o (hW.r 1 rfl) dX12_run_34 ?_
    refine z_iconst (v := 5) dX12_run_37 (by decide) ?_
    refine zr_ld hW (i := 1) rfl (by decide) (by decide) (ixC 5) (by decide) dX12_run_38 ?_
    refine z_iconst (v := 1) dX12_run_39 (by decide) ?_
    refine z_icmp_ne (tgt := 53) dX12_run_40 (by decide) (fun c40 => ?_) (fun c40 => ?_)
    · show zS _ _ _ _ _ _ _ 53 _ _ _ _ _
      refine z_aload0 dX12_run_53 ?_
      refine z_getRs fl_RX12_14 (by decide) hW.o (hW.r 1 rfl) dX12_run_54 ?_
      refine z_iconst (v := 5) dX12_run_57 (by decide) ?_
      refine zr_ld hW (i := 1) rfl (by decide) (by decide) (ixC 5) (by decide) dX12_run_58 ?_
      refine z_iret dX12_run_59 rfl ?_
      rw [show prunA (j + 1) M = _ from if_neg c40]
      exact ⟨rfl, rfl, rfl, rfl, rfl⟩
    · show zS _ _ _ _ _ _ _ 43 _ _ _ _ _
      refine z_aload0 dX12_run_43 ?_
      refine z_callVv zmd_X12_step rfl (by decide) zl_RX12_293 zin_X12_step zsel_X12_step (R_X12_step (d := d - 1) hW (hV c40).1 (by omega)) hW.o rfl rfl (by omega) rfl dX12_run_44 ?_
      refine z_iinc2 (y := 1) dX12_run_47 (by decide) ?_
      refine z_goto (tgt := 28) dX12_run_50 (by decide) ?_
      show zS _ _ _ _ _ _ _ 28 _ _ _ _ _
      rw [nI_1, show prunA (j + 1) M = _ from if_pos c40]
      exact ih _ (k + 1) (by omega) (hV c40).2
theorem zB_isIn {x : Int32} {a b : Nat} (ha : a < 2 ^ 31) (hb : b < 2 ^ 31) (h : ¬ x < nI a ∧ ¬ nI b < x) : ∃ n, a ≤ n ∧ n ≤ b ∧ x = nI n := by
  have h0 : ¬ x < 0 := fun q => h.1 (Int32.lt_of_lt_of_le q (nI_pos' ha))
  obtain ⟨n, h1, rfl⟩ := nI_of h0
  exact ⟨n, Nat.not_lt.mp (fun q => h.1 (nI_lt q ha)), Nat.not_lt.mp (fun q => h.2 (nI_lt q h1)), rfl⟩
def prun (M : zI) (x : Int32) : Int32 × zI := if x < 1 ∨ 200 < x then (-1, M) else if M 2 5 = 1 then (prunA (tn x) M 2 5, prunA (tn x) M) else (-2, M)
set_option maxRecDepth 20000 in
theorem R_X12_run {l : Launch} {d : Nat} {D : zD} {b0 : Nat} {g : zG} {f M : zI} {o : Nat} (hW : RW b0 g o) (x : Int32) (hV : ¬ (x < 1 ∨ 200 < x) → M 2 5 = 1 → prunV (tn x) M) (hd : 8 ≤ d) : zM l d D b0 mX12_run [.ref o, .int x] g (rv o f M) (zEx (some (.int ((prun M x).1))) g (rv o f ((prun M x).2))) := by
  refine zM.start zmd_X12_run (Nat.le_of_ble_eq_true rfl) ⟨rfl, rfl, trivial⟩ [some (.ref o), some (.int x), none] rfl ?_
  refine z_iload1 dX12_run_0 ?_
  refine z_iconst (v := 1) dX12_run_1 (by decide) ?_
  refine z_sipush (v := 200) dX12_run_2 (by decide) ?_
  refine z_callSi zmd_X12_isIn zl_RX12_74 zst_X12_isIn (R_X12_isIn (d := d - 1) hW _ _ _) rfl rfl (by omega) rfl dX12_run_5 ?_
  refine z_if_ne (tgt := 13) dX12_run_8 (by decide) (fun c8 => ?_) (fun c8 => ?_)
  · show zS _ _ _ _ _ _ _ 13 _ _ _ _ _
    have hin := zB_t c8
    have hno : ¬ (x < 1 ∨ 200 < x) := fun q => q.elim hin.1 hin.2
    obtain ⟨n, hn1, hn2, rfl⟩ := zB_isIn (a := 1) (b := 200) (by decide) (by decide) hin
    have htn : tn (nI n) = n := tn_nI (by omega)
    refine z_aload0 dX12_run_13 ?_
    refine z_getRs fl_RX12_14 (by decide) hW.o (hW.r 1 rfl) dX12_run_14 ?_
    refine z_iconst (v := 5) dX12_run_17 (by decide) ?_
    refine zr_ld hW (i := 1) rfl (by decide) (by decide) (ixC 5) (by decide) dX12_run_18 ?_
    refine z_iconst (v := 1) dX12_run_19 (by decide) ?_
    refine z_icmp_eq (tgt := 26) dX12_run_20 (by decide) (fun c20 => ?_) (fun c20 => ?_)
    · show zS _ _ _ _ _ _ _ 26 _ _ _ _ _
      refine z_iconst (v := 0) dX12_run_26 (by decide) ?_
      refine z_istore2 dX12_run_27 ?_
      rw [show prun M (nI n) = (prunA (tn (nI n)) M 2 5, prunA (tn (nI n)) M) from (if_neg hno).trans (if_pos c20), htn]
      exact Rl_X12_run hW n hn2 hd n M 0 (by omega) (by rw [← htn]; exact hV hno c20)
    · show zS _ _ _ _ _ _ _ 23 _ _ _ _ _
      refine z_bipush (v := (-2)) dX12_run_23 (by decide) ?_
      refine z_iret dX12_run_25 rfl ?_
      rw [show prun M (nI n) = (-2, M) from (if_neg hno).trans (if_neg c20)]
      exact ⟨rfl, rfl, rfl, rfl, rfl⟩
  · show zS _ _ _ _ _ _ _ 11 _ _ _ _ _
    refine z_iconst (v := (-1)) dX12_run_11 (by decide) ?_
    refine z_iret dX12_run_12 rfl ?_
    rw [show prun M x = (-1, M) from if_pos (by have := zB_f c8; rcases Decidable.not_and_iff_or_not.mp this with q | q; exact Or.inl (Decidable.not_not.mp q); exact Or.inr (Decidable.not_not.mp q))]
    exact ⟨rfl, rfl, rfl, rfl, rfl⟩
def panswer (M : zI) (v : Int32) : Int32 × zI := if M 2 5 = 3 then (let N := pcheck (pbecome (zup M 2 15 (-9)) v); (pdepth N, N)) else (-2, M)
def pdr1 (M : zI) : zI := zup (zup (pmakeRes M (M 2 7) (pdepth M)) 2 15 (-9)) 2 7 (-9)
def pdrop (M : zI) (v : Int32) : Int32 × zI := if M 2 5 = 3 then (pdepth M, pcheck (pbecome (ppush (pdr1 M) 14 (-9) (-9) (-9) (M 2 11)) v)) else (-2, M)
theorem pcheck_7 (M : zI) : pcheck M 2 7 = M 2 7 := by
  unfold pcheck
  split <;> rfl
set_option maxRecDepth 20000 in
theorem R_X12_answer {l : Launch} {d : Nat} {D : zD} {b0 : Nat} {g : zG} {f M : zI} {o : Nat} (hW : RW b0 g o) (v : Int32) (hT : vd 40000 (M 2 7)) (hd : 2 ≤ d) : zM l d D b0 mX12_answer [.ref o, .int v] g (rv o f M) (zEx (some (.int ((panswer M v).1))) g (rv o f ((panswer M v).2))) := by
  refine zM.start zmd_X12_answer (Nat.le_of_ble_eq_true rfl) ⟨rfl, rfl, trivial⟩ [some (.ref o), some (.int v)] rfl ?_
  refine z_aload0 dX12_answer_0 ?_
  refine z_getRs fl_RX12_14 (by decide) hW.o (hW.r 1 rfl) dX12_answer_1 ?_
  refine z_iconst (v := 5) dX12_answer_4 (by decide) ?_
  refine zr_ld hW (i := 1) rfl (by decide) (by decide) (ixC 5) (by decide) dX12_answer_5 ?_
  refine z_iconst (v := 3) dX12_answer_6 (by decide) ?_
  refine z_icmp_eq (tgt := 13) dX12_answer_7 (by decide) (fun c7 => ?_) (fun c7 => ?_)
  · show zS _ _ _ _ _ _ _ 13 _ _ _ _ _
    refine z_aload0 dX12_answer_13 ?_
    refine z_getRs fl_RX12_14 (by decide) hW.o (hW.r 1 rfl) dX12_answer_14 ?_
    refine z_bipush (v := 15) dX12_answer_17 (by decide) ?_
    refine z_bipush (v := (-9)) dX12_answer_19 (by decide) ?_
    refine zr_st hW (i := 1) rfl (by decide) (by decide) (ixC 15) (by decide) dX12_answer_21 ?_
    refine z_aload0 dX12_answer_22 ?_
    refine z_iload1 dX12_answer_23 ?_
    refine z_callVv zmd_X12_become rfl (by decide) zl_RX12_219 zin_X12_become zsel_X12_become (R_X12_become (d := d - 1) hW _) hW.o rfl rfl (by omega) rfl dX12_answer_24 ?_
    refine z_aload0 dX12_answer_27 ?_
    refine z_callVv zmd_X12_checkSteps rfl (by decide) zl_RX12_290 zin_X12_checkSteps zsel_X12_checkSteps (R_X12_checkSteps (d := d - 1) hW ) hW.o rfl rfl (by omega) rfl dX12_answer_28 ?_
    refine z_aload0 dX12_answer_31 ?_
    show zS _ _ _ _ _ _ _ 32 _ _ _ _ _
    refine z_callVi zmd_X12_depth rfl (by decide) zl_RX12_216 zin_X12_depth zsel_X12_depth (R_X12_depth (d := d - 1) hW (by rw [pcheck_7]; exact hT) (by omega)) hW.o rfl rfl (by omega) rfl dX12_answer_32 ?_
    refine z_iret dX12_answer_35 rfl ?_
    rw [show panswer M v = _ from if_pos c7]
    exact ⟨rfl, rfl, rfl, rfl, rfl⟩
  · show zS _ _ _ _ _ _ _ 10 _ _ _ _ _
    refine z_bipush (v := (-2)) dX12_answer_10 (by decide) ?_
    refine z_iret dX12_answer_12 rfl ?_
    rw [show panswer M v = (-2, M) from if_neg c7]
    exact ⟨rfl, rfl, rfl, rfl, rfl⟩
set_option maxRecDepth 20000 in
theorem R_X12_drop {l : Launch} {d : Nat} {D : zD} {b0 : Nat} {g : zG} {f M : zI} {o : Nat} (hW : RW b0 g o) (v : Int32) (hT : vd 40000 (M 2 7)) (hM : iv 1200 (M 2 11)) (hF : iv 39999 (pdr1 M 2 21)) (hd : 3 ≤ d) : zM l d D b0 mX12_drop [.ref o, .int v] g (rv o f M) (zEx (some (.int ((pdrop M v).1))) g (rv o f ((pdrop M v).2))) := by
  refine zM.start zmd_X12_drop (Nat.le_of_ble_eq_true rfl) ⟨rfl, rfl, trivial⟩ [some (.ref o), some (.int v), none, none] rfl ?_
  refine z_aload0 dX12_drop_0 ?_
  refine z_getRs fl_RX12_14 (by decide) hW.o (hW.r 1 rfl) dX12_drop_1 ?_
  refine z_iconst (v := 5) dX12_drop_4 (by decide) ?_
  refine zr_ld hW (i := 1) rfl (by decide) (by decide) (ixC 5) (by decide) dX12_drop_5 ?_
  refine z_iconst (v := 3) dX12_drop_6 (by decide) ?_
  refine z_icmp_eq (tgt := 13) dX12_drop_7 (by decide) (fun c7 => ?_) (fun c7 => ?_)
  · show zS _ _ _ _ _ _ _ 13 _ _ _ _ _
    refine z_aload0 dX12_drop_13 ?_
    refine z_callVi zmd_X12_depth rfl (by decide) zl_RX12_216 zin_X12_depth zsel_X12_depth (R_X12_depth (d := d - 1) hW hT (by omega)) hW.o rfl rfl (by omega) rfl dX12_drop_14 ?_
    refine z_istore2 dX12_drop_17 ?_
    refine z_aload0 dX12_drop_18 ?_
    refine z_aload0 dX12_drop_19 ?_
    refine z_getRs fl_RX12_14 (by decide) hW.o (hW.r 1 rfl) dX12_drop_20 ?_
    refine z_bipush (v := 7) dX12_drop_23 (by decide) ?_
    refine zr_ld hW (i := 1) rfl (by decide) (by decide) (ixC 7) (by decide) dX12_drop_25 ?_
    refine z_iload2 dX12_drop_26 ?_
    refine z_callVi zmd_X12_makeResumption rfl (by decide) zl_RX12_254 zin_X12_makeResumption zsel_X12_makeResumption (R_X12_makeResumption (d := d - 1) hW _ _ hM) hW.o rfl rfl (by omega) rfl dX12_drop_27 ?_
    refine z_istore3 dX12_drop_30 ?_
    show zS _ _ _ _ _ _ _ 31 _ _ _ _ _
    refine z_aload0 dX12_drop_31 ?_
    refine z_getRs fl_RX12_14 (by decide) hW.o (hW.r 1 rfl) dX12_drop_32 ?_
    refine z_bipush (v := 15) dX12_drop_35 (by decide) ?_
    refine z_bipush (v := (-9)) dX12_drop_37 (by decide) ?_
    refine zr_st hW (i := 1) rfl (by decide) (by decide) (ixC 15) (by decide) dX12_drop_39 ?_
    refine z_aload0 dX12_drop_40 ?_
    refine z_getRs fl_RX12_14 (by decide) hW.o (hW.r 1 rfl) dX12_drop_41 ?_
    refine z_bipush (v := 7) dX12_drop_44 (by decide) ?_
    refine z_bipush (v := (-9)) dX12_drop_46 (by decide) ?_
    refine zr_st hW (i := 1) rfl (by decide) (by decide) (ixC 7) (by decide) dX12_drop_48 ?_
    refine z_aload0 dX12_drop_49 ?_
    refine z_bipush (v := 14) dX12_drop_50 (by decide) ?_
    show zS _ _ _ _ _ _ _ 52 _ _ _ _ _
    refine z_bipush (v := (-9)) dX12_drop_52 (by decide) ?_
    refine z_bipush (v := (-9)) dX12_drop_54 (by decide) ?_
    refine z_bipush (v := (-9)) dX12_drop_56 (by decide) ?_
    refine z_iload3 dX12_drop_58 ?_
    refine z_callVv zmd_X12_push rfl (by decide) zl_RX12_228 zin_X12_push zsel_X12_push (R_X12_push (d := d - 1) hW _ _ _ _ _ hF (Or.inl rfl) (by omega)) hW.o rfl rfl (by omega) rfl dX12_drop_59 ?_
    refine z_aload0 dX12_drop_62 ?_
    refine z_iload1 dX12_drop_63 ?_
    refine z_callVv zmd_X12_become rfl (by decide) zl_RX12_219 zin_X12_become zsel_X12_become (R_X12_become (d := d - 1) hW _) hW.o rfl rfl (by omega) rfl dX12_drop_64 ?_
    refine z_aload0 dX12_drop_67 ?_
    refine z_callVv zmd_X12_checkSteps rfl (by decide) zl_RX12_290 zin_X12_checkSteps zsel_X12_checkSteps (R_X12_checkSteps (d := d - 1) hW ) hW.o rfl rfl (by omega) rfl dX12_drop_68 ?_
    refine z_iload2 dX12_drop_71 ?_
    refine z_iret dX12_drop_72 rfl ?_
    rw [show pdrop M v = _ from if_pos c7]
    exact ⟨rfl, rfl, rfl, rfl, rfl⟩
  · show zS _ _ _ _ _ _ _ 10 _ _ _ _ _
    refine z_bipush (v := (-2)) dX12_drop_10 (by decide) ?_
    refine z_iret dX12_drop_12 rfl ?_
    rw [show pdrop M v = (-2, M) from if_neg c7]
    exact ⟨rfl, rfl, rfl, rfl, rfl⟩
