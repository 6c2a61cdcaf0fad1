/-! The class's lister, over the block. -/
def lput (C : zI) (x : Int32) : zI :=
  if zup C 9 2 0 9 1 < 240 then zup (zup (zup C 9 2 0) 10 (tn (C 9 1)) x) 9 1 (C 9 1 + 1) else zup C 9 2 0
theorem lput_t {C : zI} {x : Int32} (h : zup C 9 2 0 9 1 < 240) : lput C x = zup (zup (zup C 9 2 0) 10 (tn (C 9 1)) x) 9 1 (C 9 1 + 1) := if_pos h
theorem lput_f {C : zI} {x : Int32} (h : ¬ zup C 9 2 0 9 1 < 240) : lput C x = zup C 9 2 0 := if_neg h
theorem iv240 {x : Int32} (h : iv 241 x) (k : x < 240) : iv 240 x := by
  refine ⟨?_, h.2⟩
  have h1 := h.1
  rw [h.2] at k
  exact (nI_ltI (b := 240) (by omega) (by decide)).mp k
theorem iv241 {x : Int32} (h : iv 241 x) (k : x < 240) : iv 241 (x + 1) := by
  have h2 := iv240 h k
  have h1 := h2.1
  rw [show x + 1 = nI (tn x + 1) from ixA h.2 (ixC 1)]
  exact iv_nI (by omega) (by decide)
theorem lput_iv {C : zI} {x : Int32} (h : iv 241 (C 9 1)) : iv 241 (lput C x 9 1) := by
  unfold lput
  split
  · rename_i k
    rw [zup_at]
    exact iv241 h k
  · exact h
theorem lput_r {C : zI} {x : Int32} {r : Nat} (h1 : r ≠ 9) (h2 : r ≠ 10) : lput C x r = C r := by
  unfold lput
  split
  · rw [zup_r h1, zup_r h2, zup_r h1]
  · rw [zup_r h1]
theorem lput_5 {C : zI} {x : Int32} : lput C x 9 5 = C 9 5 := by
  unfold lput
  split
  · rw [zup_ne _ _ _ _ (by omega), zup_ne _ _ _ _ (by omega), zup_ne _ _ _ _ (by omega)]
  · rw [zup_ne _ _ _ _ (by omega)]
set_option maxRecDepth 20000 in
set_option maxHeartbeats 400000 in
theorem B_X4_put {l : Launch} {d : Nat} {D : zD} {b0 : Nat} {g : zG} {f C : zI} {R : zRf} {c : Nat} (hW : CW b0 g c) (hF : CF c R) (hw : zOK b0 zNo (gv c g R)) (x : Int32) (hl : iv 241 (C 9 1)) : zM l d D b0 mX4_put [.ref (c + 9), .int x] (gv c g R) (cv c f C) (zCy b0 zNo c g none g R f (lput C x) 0 0) := by
  refine zM.start zmd_X4_put (Nat.le_of_ble_eq_true rfl) ⟨rfl, rfl, trivial⟩ [some (.ref (c + 9)), some (.int x)] rfl ?_
  refine z_aload0 dX4_put_0 ?_
  refine z_iconst (v := 0) dX4_put_1 (by decide) ?_
  refine zc_putI (j := 9) hW fl_RX4_31 rfl dX4_put_2 ?_
  refine z_aload0 dX4_put_5 ?_
  refine zc_getI (j := 9) hW fl_RX4_24 rfl dX4_put_6 ?_
  refine z_sipush (v := 240) dX4_put_9 (by decide) ?_
  refine z_icmp_ge (tgt := 35) dX4_put_12 (by decide) (fun c12 => ?_) (fun c12 => ?_)
  · show zS _ _ _ _ _ _ _ 35 _ _ _ _ _
    refine z_ret dX4_put_35 rfl ?_
    rw [lput_f c12]
    exact ⟨rfl, rfl, rfl, by omega, by omega, hw, zLe.rf, hW⟩
  · show zS _ _ _ _ _ _ _ 15 _ _ _ _ _
    have hl2 : iv 240 (C 9 1) := iv240 hl c12
    have hl3 := hl2.1
    refine z_aload0 dX4_put_15 ?_
    refine zc_getF (j := 9) hW fl_RX4_11 rfl (by decide) (hF _ (List.mem_of_getElem? (i := 12) rfl)) dX4_put_16 ?_
    refine z_aload0 dX4_put_19 ?_
    refine zc_getI (j := 9) hW fl_RX4_24 rfl dX4_put_20 ?_
    refine z_iload1 dX4_put_23 ?_
    refine zc_st (j := 10) hW rfl (by decide) (hl2.2 : _ = nI (tn (C 9 1))) (by omega) dX4_put_24 ?_
    refine z_aload0 dX4_put_25 ?_
    refine z_dup dX4_put_26 ?_
    refine zc_getI (j := 9) hW fl_RX4_24 rfl dX4_put_27 ?_
    refine z_iconst (v := 1) dX4_put_30 (by decide) ?_
    refine z_iadd dX4_put_31 ?_
    show zS _ _ _ _ _ _ _ 32 _ _ _ _ _
    refine zc_putI (j := 9) hW fl_RX4_24 rfl dX4_put_32 ?_
    refine z_ret dX4_put_35 rfl ?_
    rw [lput_t c12]
    exact ⟨rfl, rfl, rfl, by omega, by omega, hw, zLe.rf, hW⟩
def lplan (S : zRf × zI) (e : Option Nat) (x : Int32) : zRf × zI :=
  if S.2 9 5 < 240 then (zup S.1 11 (tn (S.2 9 5)) e, zup (zup S.2 12 (tn (S.2 9 5)) x) 9 5 (S.2 9 5 + 1)) else S
theorem lplan_t {S : zRf × zI} {e : Option Nat} {x : Int32} (h : S.2 9 5 < 240) : lplan S e x = (zup S.1 11 (tn (S.2 9 5)) e, zup (zup S.2 12 (tn (S.2 9 5)) x) 9 5 (S.2 9 5 + 1)) := if_pos h
theorem lplan_f {S : zRf × zI} {e : Option Nat} {x : Int32} (h : ¬ S.2 9 5 < 240) : lplan S e x = S := if_neg h
theorem lplan_iv {S : zRf × zI} {e : Option Nat} {x : Int32} (h : iv 241 (S.2 9 5)) : iv 241 ((lplan S e x).2 9 5) := by
  unfold lplan
  split
  · rename_i k
    show iv 241 (zup (zup S.2 12 (tn (S.2 9 5)) x) 9 5 (S.2 9 5 + 1) 9 5)
    rw [zup_at]
    exact iv241 h k
  · exact h
theorem CF.plan {c : Nat} {S : zRf × zI} {e : Option Nat} {x : Int32} (h : CF c S.1) : CF c (lplan S e x).1 := by
  unfold lplan
  split
  · exact h.upj (by decide)
  · exact h
theorem lplan_C {S : zRf × zI} {e : Option Nat} {x : Int32} {r : Nat} (h1 : r ≠ 9) (h2 : r ≠ 12) : (lplan S e x).2 r = S.2 r := by
  unfold lplan
  split
  · show zup (zup S.2 12 _ x) 9 5 _ r = _
    rw [zup_r h1, zup_r h2]
  · rfl
set_option maxRecDepth 20000 in
set_option maxHeartbeats 400000 in
theorem B_X4_plan {l : Launch} {d : Nat} {D : zD} {b0 : Nat} {g : zG} {f C : zI} {R : zRf} {c : Nat} (hW : CW b0 g c) (hF : CF c R) (hw : zOK b0 zNo (gv c g R)) (e : Option Nat) (x : Int32) (he : ∀ b, e = some b → zIn b0 g b 1) (hl : iv 241 (C 9 5)) : zM l d D b0 mX4_plan [.ref (c + 9), va_rf e, .int x] (gv c g R) (cv c f C) (zCy b0 zNo c g none g (lplan (R, C) e x).1 f (lplan (R, C) e x).2 0 0) := by
  refine zM.start zmd_X4_plan (Nat.le_of_ble_eq_true rfl) ⟨rfl, zcat_o _, rfl, trivial⟩ [some (.ref (c + 9)), some (va_rf e), some (.int x)] rfl ?_
  refine z_aload0 dX4_plan_0 ?_
  refine zc_getI (j := 9) hW fl_RX4_28 rfl dX4_plan_1 ?_
  refine z_sipush (v := 240) dX4_plan_4 (by decide) ?_
  refine z_icmp_ge (tgt := 40) dX4_plan_7 (by decide) (fun c7 => ?_) (fun c7 => ?_)
  · show zS _ _ _ _ _ _ _ 40 _ _ _ _ _
    refine z_ret dX4_plan_40 rfl ?_
    rw [lplan_f (S := (R, C)) c7]
    exact ⟨rfl, rfl, rfl, by omega, by omega, hw, zLe.rf, hW⟩
  · show zS _ _ _ _ _ _ _ 10 _ _ _ _ _
    have hl2 : iv 240 (C 9 5) := iv240 hl c7
    have hl3 := hl2.1
    rw [lplan_t (S := (R, C)) c7]
    refine z_aload0 dX4_plan_10 ?_
    refine zc_getF (j := 9) hW fl_RX4_17 rfl (by decide) (hF _ (List.mem_of_getElem? (i := 13) rfl)) dX4_plan_11 ?_
    refine z_aload0 dX4_plan_14 ?_
    refine zc_getI (j := 9) hW fl_RX4_28 rfl dX4_plan_15 ?_
    refine z_aload1 dX4_plan_18 ?_
    refine zc_ast (j := 11) (t' := 1) hw hW rfl (by decide) (by decide) hl2.2 (by omega) (fun _ => rfl) he dX4_plan_19 (fun w1 => ?_)
    refine z_aload0 dX4_plan_20 ?_
    refine zc_getF (j := 9) hW fl_RX4_21 rfl (by decide) ((hF.upj (by decide)) _ (List.mem_of_getElem? (i := 14) rfl)) dX4_plan_21 ?_
    refine z_aload0 dX4_plan_24 ?_
    refine zc_getI (j := 9) hW fl_RX4_28 rfl dX4_plan_25 ?_
    refine z_iload2 dX4_plan_28 ?_
    show zS _ _ _ _ _ _ _ 29 _ _ _ _ _
    refine zc_st (j := 12) hW rfl (by decide) hl2.2 (by omega) dX4_plan_29 ?_
    refine z_aload0 dX4_plan_30 ?_
    refine z_dup dX4_plan_31 ?_
    refine zc_getI (j := 9) hW fl_RX4_28 rfl dX4_plan_32 ?_
    refine z_iconst (v := 1) dX4_plan_35 (by decide) ?_
    refine z_iadd dX4_plan_36 ?_
    refine zc_putI (j := 9) hW fl_RX4_28 rfl dX4_plan_37 ?_
    refine z_ret dX4_plan_40 rfl ?_
    exact ⟨rfl, rfl, rfl, by omega, by omega, w1, zLe.rf, hW⟩
def lpart (S : zRf × zI) (e : Option Nat) : zRf × zI := if e = none then S else lplan S e 0
theorem lpart_iv {S : zRf × zI} {e : Option Nat} (h : iv 241 (S.2 9 5)) : iv 241 ((lpart S e).2 9 5) := by
  unfold lpart
  split
  · exact h
  · exact lplan_iv h
theorem CF.part {c : Nat} {S : zRf × zI} {e : Option Nat} (h : CF c S.1) : CF c (lpart S e).1 := by
  unfold lpart
  split
  · exact h
  · exact h.plan
set_option maxRecDepth 20000 in
set_option maxHeartbeats 400000 in
theorem B_X4_planPart {l : Launch} {d : Nat} {D : zD} {b0 : Nat} {g : zG} {f C : zI} {R : zRf} {c : Nat} (hW : CW b0 g c) (hF : CF c R) (hw : zOK b0 zNo (gv c g R)) (e : Option Nat) (he : ∀ b, e = some b → zIn b0 g b 1) (hl : iv 241 (C 9 5)) (hd : 1 ≤ d) : zM l d D b0 mX4_planPart [.ref (c + 9), va_rf e] (gv c g R) (cv c f C) (zCy b0 zNo c g none g (lpart (R, C) e).1 f (lpart (R, C) e).2 0 0) := by
  refine zM.start zmd_X4_planPart (Nat.le_of_ble_eq_true rfl) ⟨rfl, zcat_o _, trivial⟩ [some (.ref (c + 9)), some (va_rf e)] rfl ?_
  refine z_aload1 dX4_planPart_0 ?_
  refine z_ifnull (tgt := 10) dX4_planPart_1 (by decide) (fun c1 => ?_) (fun a1 c1 => ?_)
  · show zS _ _ _ _ _ _ _ 10 _ _ _ _ _
    refine z_ret dX4_planPart_10 rfl ?_
    rw [show lpart (R, C) e = (R, C) from if_pos c1]
    exact ⟨rfl, rfl, rfl, by omega, by omega, hw, zLe.rf, hW⟩
  · show zS _ _ _ _ _ _ _ 4 _ _ _ _ _
    rw [show lpart (R, C) e = lplan (R, C) e 0 from if_neg (by rw [c1]; intro q; cases q)]
    refine z_aload0 dX4_planPart_4 ?_
    refine z_aload1 dX4_planPart_5 ?_
    refine z_iconst (v := 0) dX4_planPart_6 (by decide) ?_
    refine z_callV zmd_X4_plan rfl (by decide) zl_RX4_35 zin_X4_plan zsel_X4_plan (B_X4_plan (d := d - 1) hW hF hw _ _ he hl) (hW.i 9 rfl) rfl rfl (by omega) rfl dX4_planPart_7 (fun r1 g1 f1 mc1 ms1 q1 => ?_)
    obtain ⟨rfl, rfl, rfl, hc1, hs1, w1, k1, b1⟩ := q1
    refine z_ret dX4_planPart_10 rfl ?_
    exact ⟨rfl, rfl, rfl, by omega, by omega, w1, k1, b1⟩
def lplanC (g : zG) (f : zI) (S : zRf × zI) (h : Nat) (x : Int32) : zRf × zI :=
  if bclause g h x = none then S else lplan (lplan (lplan S (bclause g h x) 0) none (97 + bclvar g f h x)) none (if x = 6 then 58 else 65 + x)
theorem lplanC_iv {g : zG} {f : zI} {S : zRf × zI} {h : Nat} {x : Int32} (k : iv 241 (S.2 9 5)) : iv 241 ((lplanC g f S h x).2 9 5) := by
  unfold lplanC
  split
  · exact k
  · exact lplan_iv (lplan_iv (lplan_iv k))
theorem CF.planC {c : Nat} {g : zG} {f : zI} {S : zRf × zI} {h : Nat} {x : Int32} (k : CF c S.1) : CF c (lplanC g f S h x).1 := by
  unfold lplanC
  split
  · exact k
  · exact k.plan.plan.plan
set_option maxRecDepth 20000 in
set_option maxHeartbeats 400000 in
theorem B_X4_planClause {l : Launch} {d : Nat} {D : zD} {b0 : Nat} {g : zG} {f C : zI} {R : zRf} {c : Nat} (hW : CW b0 g c) (hF : CF c R) (hw : zOK b0 zNo (gv c g R)) (h : Nat) (x : Int32) (hi : zIn b0 g h 1) (he : eOK g c h) (hl : iv 241 (C 9 5)) (hd : 1 ≤ d) : zM l d D b0 mX4_planClause [.ref (c + 9), .ref h, .int x] (gv c g R) (cv c f C) (zCy b0 zNo c g none g (lplanC g f (R, C) h x).1 f (lplanC g f (R, C) h x).2 0 0) := by
  refine zM.start zmd_X4_planClause (Nat.le_of_ble_eq_true rfl) ⟨rfl, rfl, rfl, trivial⟩ [some (.ref (c + 9)), some (.ref h), some (.int x)] rfl ?_
  refine z_aload1 dX4_planClause_0 ?_
  refine z_iload2 dX4_planClause_1 ?_
  refine z_callV zmd_X1_clause rfl (by decide) zl_RX4_76 zin_X1_clause zsel_X1_clause (B_X1_clause (d := d - 1) hW hF hw _ _ hi he) hi rfl rfl (by omega) rfl dX4_planClause_2 (fun r1 g1 f1 mc1 ms1 q1 => ?_)
  obtain ⟨rfl, rfl, rfl, rfl, rfl⟩ := q1
  refine z_ifnull (tgt := 51) dX4_planClause_5 (by decide) (fun c5 => ?_) (fun a5 c5 => ?_)
  · show zS _ _ _ _ _ _ _ 51 _ _ _ _ _
    refine z_ret dX4_planClause_51 rfl ?_
    rw [show lplanC g f (R, C) h x = (R, C) from if_pos c5]
    exact ⟨rfl, rfl, rfl, by omega, by omega, hw, zLe.rf, hW⟩
  · show zS _ _ _ _ _ _ _ 8 _ _ _ _ _
    have hne : ¬ bclause g h x = none := by rw [c5]; intro q; cases q
    refine z_aload0 dX4_planClause_8 ?_
    refine z_aload1 dX4_planClause_9 ?_
    refine z_iload2 dX4_planClause_10 ?_
    refine z_callV zmd_X1_clause rfl (by decide) zl_RX4_76 zin_X1_clause zsel_X1_clause (B_X1_clause (d := d - 1) hW hF hw _ _ hi he) hi rfl rfl (by omega) rfl dX4_planClause_11 (fun r2 g2 f2 mc2 ms2 q2 => ?_)
    obtain ⟨rfl, rfl, rfl, rfl, rfl⟩ := q2
    refine z_iconst (v := 0) dX4_planClause_14 (by decide) ?_
    refine z_callV zmd_X4_plan rfl (by decide) zl_RX4_35 zin_X4_plan zsel_X4_plan (B_X4_plan (d := d - 1) hW hF hw _ _ (bclause_in hw hW hi he) hl) (hW.i 9 rfl) rfl rfl (by omega) rfl dX4_planClause_15 (fun r3 g3 f3 mc3 ms3 q3 => ?_)
    obtain ⟨rfl, rfl, rfl, hc3, hs3, w3, k3, b3⟩ := q3
    refine z_aload0 dX4_planClause_18 ?_
    refine z_null dX4_planClause_19 ?_
    refine z_bipush (v := 97) dX4_planClause_20 (by decide) ?_
    refine z_aload1 dX4_planClause_22 ?_
    refine z_iload2 dX4_planClause_23 ?_
    show zS _ _ _ _ _ _ _ 24 _ _ _ _ _
    refine z_callVi zmd_X1_clauseVariable rfl (by decide) zl_RX4_80 zin_X1_clauseVariable zsel_X1_clauseVariable (B_X1_clauseVariable (d := d - 1) b3 (hF.plan) w3 _ _ (hi.le k3) he) (hi.le k3) rfl rfl (by omega) rfl dX4_planClause_24 ?_
    refine z_iadd dX4_planClause_27 ?_
    refine z_callV zmd_X4_plan rfl (by decide) zl_RX4_35 zin_X4_plan zsel_X4_plan (B_X4_plan (d := d - 1) b3 (hF.plan) w3 none _ (fun b hb => by cases hb) (lplan_iv (S := (R, C)) hl)) (b3.i 9 rfl) rfl rfl (by omega) rfl dX4_planClause_28 (fun r5 g5 f5 mc5 ms5 q5 => ?_)
    obtain ⟨rfl, rfl, rfl, hc5, hs5, w5, k5, b5⟩ := q5
    refine z_aload0 dX4_planClause_31 ?_
    refine z_null dX4_planClause_32 ?_
    refine z_iload2 dX4_planClause_33 ?_
    refine z_bipush (v := 6) dX4_planClause_34 (by decide) ?_
    refine z_icmp_ne (tgt := 44) dX4_planClause_36 (by decide) (fun c36 => ?_) (fun c36 => ?_)
    · show zS _ _ _ _ _ _ _ 44 _ _ _ _ _
      refine z_bipush (v := 65) dX4_planClause_44 (by decide) ?_
      refine z_iload2 dX4_planClause_46 ?_
      refine z_iadd dX4_planClause_47 ?_
      refine z_callV zmd_X4_plan rfl (by decide) zl_RX4_35 zin_X4_plan zsel_X4_plan (B_X4_plan (d := d - 1) b5 ((hF.plan).plan) w5 none _ (fun b hb => by cases hb) (lplan_iv (lplan_iv (S := (R, C)) hl))) (b5.i 9 rfl) rfl rfl (by omega) rfl dX4_planClause_48 (fun r6 g6 f6 mc6 ms6 q6 => ?_)
      obtain ⟨rfl, rfl, rfl, hc6, hs6, w6, k6, b6⟩ := q6
      refine z_ret dX4_planClause_51 rfl ?_
      rw [show lplanC g f (R, C) h x = lplan (lplan (lplan (R, C) (bclause g h x) 0) none (97 + bclvar g f h x)) none (65 + x) from (if_neg hne).trans (congrArg (lplan _ none) (if_neg c36))]
      exact ⟨rfl, rfl, rfl, by omega, by omega, w6, ((k3.tr k5).tr k6), b6⟩
    · show zS _ _ _ _ _ _ _ 39 _ _ _ _ _
      refine z_bipush (v := 58) dX4_planClause_39 (by decide) ?_
      refine z_goto (tgt := 48) dX4_planClause_41 (by decide) ?_
      show zS _ _ _ _ _ _ _ 48 _ _ _ _ _
      refine z_callV zmd_X4_plan rfl (by decide) zl_RX4_35 zin_X4_plan zsel_X4_plan (B_X4_plan (d := d - 1) b5 ((hF.plan).plan) w5 none _ (fun b hb => by cases hb) (lplan_iv (lplan_iv (S := (R, C)) hl))) (b5.i 9 rfl) rfl rfl (by omega) rfl dX4_planClause_48 (fun r7 g7 f7 mc7 ms7 q7 => ?_)
      obtain ⟨rfl, rfl, rfl, hc7, hs7, w7, k7, b7⟩ := q7
      refine z_ret dX4_planClause_51 rfl ?_
      rw [show lplanC g f (R, C) h x = lplan (lplan (lplan (R, C) (bclause g h x) 0) none (97 + bclvar g f h x)) none 58 from (if_neg hne).trans (congrArg (lplan _ none) (if_pos c36))]
      exact ⟨rfl, rfl, rfl, by omega, by omega, w7, ((k3.tr k5).tr k7), b7⟩
/-- the clauses below k, the last one first -/
def lplanL (g : zG) (f : zI) (h : Nat) : Nat → zRf × zI → zRf × zI
  | 0, S => S
  | k + 1, S => lplanL g f h k (lplanC g f S h (nI k))
theorem lplanL_iv {g : zG} {f : zI} {h : Nat} : ∀ (k : Nat) (S : zRf × zI), iv 241 (S.2 9 5) → iv 241 ((lplanL g f h k S).2 9 5)
  | 0, _, q => q
  | k + 1, _, q => lplanL_iv k _ (lplanC_iv q)
theorem CF.planL {c : Nat} {g : zG} {f : zI} {h : Nat} : ∀ (k : Nat) (S : zRf × zI), CF c S.1 → CF c (lplanL g f h k S).1
  | 0, _, q => q
  | k + 1, _, q => CF.planL k _ (CF.planC (S := _) q)
def lclauses (g : zG) (f : zI) (S : zRf × zI) (e : Nat) : zRf × zI := if g.2.2.2 e 5 = none then S else lplanL g f e 7 (lplan S none 125)
def lparts (g : zG) (f : zI) (S : zRf × zI) (e : Nat) : zRf × zI := lpart (lpart (lpart (lclauses g f S e) (g.2.2.2 e 4)) (g.2.2.2 e 3)) (g.2.2.2 e 2)
theorem lclauses_iv {g : zG} {f : zI} {S : zRf × zI} {e : Nat} (k : iv 241 (S.2 9 5)) : iv 241 ((lclauses g f S e).2 9 5) := by
  unfold lclauses
  split
  · exact k
  · exact lplanL_iv 7 _ (lplan_iv k)
theorem lparts_iv {g : zG} {f : zI} {S : zRf × zI} {e : Nat} (k : iv 241 (S.2 9 5)) : iv 241 ((lparts g f S e).2 9 5) := lpart_iv (lpart_iv (lpart_iv (lclauses_iv k)))
theorem CF.clauses {c : Nat} {g : zG} {f : zI} {S : zRf × zI} {e : Nat} (k : CF c S.1) : CF c (lclauses g f S e).1 := by
  unfold lclauses
  split
  · exact k
  · exact CF.planL 7 _ (CF.plan (S := S) k)
theorem CF.parts {c : Nat} {g : zG} {f : zI} {S : zRf × zI} {e : Nat} (k : CF c S.1) : CF c (lparts g f S e).1 := CF.part (S := _) (CF.part (S := _) (CF.part (S := _) k.clauses))
set_option maxRecDepth 20000 in
theorem Bl_X4_planParts {l : Launch} {d : Nat} {D : zD} {b0 : Nat} {g : zG} {f : zI} {c : Nat} (hW : CW b0 g c) (e : Nat) (hi : zIn b0 g e 1) (he : eOK g c e) (hd : 2 ≤ d) (Q : Nat → Nat → zKT → Prop) (S1 : zRf × zI) : ∀ (k : Nat) (R : zRf) (C : zI) (cs ns : Nat), k ≤ 7 → lplanL g f e k (R, C) = S1 → CF c R → zOK b0 zNo (gv c g R) → iv 241 (C 9 5) → (∀ (x2 : Int32) (cs' ns' : Nat), cs' ≤ cs → ns' ≤ ns → zOK b0 zNo (gv c g S1.1) → zS l d D b0 mX4_planParts cs' ns' 33 [some (.ref (c + 9)), some (.ref e), some (.int x2)] [] (gv c g S1.1) (cv c f S1.2) Q) → zS l d D b0 mX4_planParts cs ns 17 [some (.ref (c + 9)), some (.ref e), some (.int (nI k - 1))] [] (gv c g R) (cv c f C) Q := by
  intro k
  induction k with
  | zero =>
    intro R C cs ns hk hq hF hw hl kk
    subst hq
    refine z_iload2 dX4_planParts_17 ?_
    refine z_if_lt (tgt := 33) dX4_planParts_18 (by decide) (fun c18 => kk _ _ _ (Nat.le_refl _) (Nat.le_refl _) hw) (fun c18 => absurd (by decide) c18)
  | succ k ih =>
    intro R C cs ns hk hq hF hw hl kk
    have ek : nI (k + 1) - 1 = nI k := nI_pred k
    rw [ek]
    show zS _ _ _ _ _ _ _ 17 _ _ _ _ _
    refine z_iload2 dX4_planParts_17 ?_
    refine z_if_lt (tgt := 33) dX4_planParts_18 (by decide) (fun c18 => ?_) (fun c18 => ?_)
    · exact absurd c18 (nI_pos (by omega))
    · show zS _ _ _ _ _ _ _ 21 _ _ _ _ _
      refine z_aload0 dX4_planParts_21 ?_
      refine z_aload1 dX4_planParts_22 ?_
      refine z_iload2 dX4_planParts_23 ?_
      refine z_callV zmd_X4_planClause rfl (by decide) zl_RX4_60 zin_X4_planClause zsel_X4_planClause (B_X4_planClause (d := d - 1) hW hF hw _ _ hi he hl (by omega)) (hW.i 9 rfl) rfl rfl (by omega) rfl dX4_planParts_24 (fun r1 g1 f1 mc1 ms1 q1 => ?_)
      obtain ⟨rfl, rfl, rfl, hc1, hs1, w1, k1, b1⟩ := q1
      refine z_iinc2 (y := -1) dX4_planParts_27 (by decide) ?_
      refine z_goto (tgt := 17) dX4_planParts_30 (by decide) ?_
      rw [show nI k + -1 = nI k - 1 from (Int32.sub_eq_add_neg (a := nI k) (b := 1)).symm]
      exact ih _ _ _ _ (by omega) hq (hF.planC) w1 (lplanC_iv (S := (R, C)) hl) (fun x2 cs1 ns1 h1 h2 => kk x2 cs1 ns1 (by omega) (by omega))
set_option maxRecDepth 20000 in
set_option maxHeartbeats 400000 in
theorem B_X4_planParts {l : Launch} {d : Nat} {D : zD} {b0 : Nat} {g : zG} {f C : zI} {R : zRf} {c : Nat} (hW : CW b0 g c) (hF : CF c R) (hw : zOK b0 zNo (gv c g R)) (e : Nat) (hi : zIn b0 g e 1) (he : eOK g c e) (hl : iv 241 (C 9 5)) (hd : 2 ≤ d) : zM l d D b0 mX4_planParts [.ref (c + 9), .ref e] (gv c g R) (cv c f C) (zCy b0 zNo c g none g (lparts g f (R, C) e).1 f (lparts g f (R, C) e).2 0 0) := by
  refine zM.start zmd_X4_planParts (Nat.le_of_ble_eq_true rfl) ⟨rfl, rfl, trivial⟩ [some (.ref (c + 9)), some (.ref e), none] rfl ?_
  refine z_aload1 dX4_planParts_0 ?_
  refine zd_getN hw hW fl_RX4_57 hi (by decide) (by decide) dX4_planParts_1 (fun i1 => ?_)
  refine z_ifnull (tgt := 33) dX4_planParts_4 (by decide) (fun c4 => ?_) (fun a4 c4 => ?_)
  · show zS _ _ _ _ _ _ _ 33 _ _ _ _ _
    have e1 : lclauses g f (R, C) e = (R, C) := if_pos c4
    show zS _ _ _ _ _ _ _ 33 _ _ _ _ _
    refine z_aload0 dX4_planParts_33 ?_
    refine z_aload1 dX4_planParts_34 ?_
    refine zd_getN hw hW fl_RX4_63 hi (by decide) (by decide) dX4_planParts_35 (fun i1 => ?_)
    refine z_callV zmd_X4_planPart rfl (by decide) zl_RX4_67 zin_X4_planPart zsel_X4_planPart (B_X4_planPart (d := d - 1) hW hF hw _ i1 (hl) (by omega)) (hW.i 9 rfl) rfl rfl (by omega) rfl dX4_planParts_38 (fun r2 g2 f2 mc2 ms2 q2 => ?_)
    obtain ⟨rfl, rfl, rfl, hc2, hs2, w2, k2, b2⟩ := q2
    refine z_aload0 dX4_planParts_41 ?_
    refine z_aload1 dX4_planParts_42 ?_
    refine zd_getN w2 b2 fl_RX4_70 (hi.le k2) (by decide) (by decide) dX4_planParts_43 (fun i3 => ?_)
    refine z_callV zmd_X4_planPart rfl (by decide) zl_RX4_67 zin_X4_planPart zsel_X4_planPart (B_X4_planPart (d := d - 1) b2 (hF.part) w2 _ i3 (lpart_iv (S := (R, C)) (hl)) (by omega)) (b2.i 9 rfl) rfl rfl (by omega) rfl dX4_planParts_46 (fun r4 g4 f4 mc4 ms4 q4 => ?_)
    obtain ⟨rfl, rfl, rfl, hc4, hs4, w4, k4, b4⟩ := q4
    refine z_aload0 dX4_planParts_49 ?_
    refine z_aload1 dX4_planParts_50 ?_
    refine zd_getN w4 b4 fl_RX4_73 ((hi.le k2).le k4) (by decide) (by decide) dX4_planParts_51 (fun i5 => ?_)
    show zS _ _ _ _ _ _ _ 54 _ _ _ _ _
    refine z_callV zmd_X4_planPart rfl (by decide) zl_RX4_67 zin_X4_planPart zsel_X4_planPart (B_X4_planPart (d := d - 1) b4 ((hF.part).part) w4 _ i5 (lpart_iv (lpart_iv (S := (R, C)) (hl))) (by omega)) (b4.i 9 rfl) rfl rfl (by omega) rfl dX4_planParts_54 (fun r6 g6 f6 mc6 ms6 q6 => ?_)
    obtain ⟨rfl, rfl, rfl, hc6, hs6, w6, k6, b6⟩ := q6
    refine z_ret dX4_planParts_57 rfl ?_
    show zCy _ _ _ _ _ _ (lpart (lpart (lpart (lclauses g f (R, C) e) (g.2.2.2 e 4)) (g.2.2.2 e 3)) (g.2.2.2 e 2)).1 _ (lpart (lpart (lpart (lclauses g f (R, C) e) (g.2.2.2 e 4)) (g.2.2.2 e 3)) (g.2.2.2 e 2)).2 _ _ _ _ _ _ _
    rw [e1]
    exact ⟨rfl, rfl, rfl, by omega, by omega, w6, ((k2.tr k4).tr k6), b6⟩
  · show zS _ _ _ _ _ _ _ 7 _ _ _ _ _
    refine z_aload0 dX4_planParts_7 ?_
    refine z_null dX4_planParts_8 ?_
    refine z_bipush (v := 125) dX4_planParts_9 (by decide) ?_
    refine z_callV zmd_X4_plan rfl (by decide) zl_RX4_35 zin_X4_plan zsel_X4_plan (B_X4_plan (d := d - 1) hW hF hw none _ (fun b hb => by cases hb) hl) (hW.i 9 rfl) rfl rfl (by omega) rfl dX4_planParts_11 (fun r2 g2 f2 mc2 ms2 q2 => ?_)
    obtain ⟨rfl, rfl, rfl, hc2, hs2, w2, k2, b2⟩ := q2
    refine z_bipush (v := 6) dX4_planParts_14 (by decide) ?_
    refine z_istore2 dX4_planParts_16 ?_
    have e1 : lclauses g f (R, C) e = lplanL g f e 7 (lplan (R, C) none 125) := if_neg (by rw [c4]; intro q; cases q)
    have hbb := b2
    refine Bl_X4_planParts hW e hi he hd _ _ 7 _ _ _ _ (by decide) rfl (hF.plan) w2 (lplan_iv (S := (R, C)) hl) (fun x2 cs1 ns1 h1 h2 hw2 => ?_)
    show zS _ _ _ _ _ _ _ 33 _ _ _ _ _
    refine z_aload0 dX4_planParts_33 ?_
    refine z_aload1 dX4_planParts_34 ?_
    refine zd_getN hw2 hW fl_RX4_63 hi (by decide) (by decide) dX4_planParts_35 (fun i1 => ?_)
    refine z_callV zmd_X4_planPart rfl (by decide) zl_RX4_67 zin_X4_planPart zsel_X4_planPart (B_X4_planPart (d := d - 1) hW (CF.planL 7 _ (CF.plan (S := (R, C)) hF)) hw2 _ i1 (lplanL_iv 7 _ (lplan_iv (S := (R, C)) hl)) (by omega)) (hW.i 9 rfl) rfl rfl (by omega) rfl dX4_planParts_38 (fun r2 g2 f2 mc2 ms2 q2 => ?_)
    obtain ⟨rfl, rfl, rfl, hc2, hs2, w2, k2, b2⟩ := q2
    refine z_aload0 dX4_planParts_41 ?_
    refine z_aload1 dX4_planParts_42 ?_
    refine zd_getN w2 b2 fl_RX4_70 (hi.le k2) (by decide) (by decide) dX4_planParts_43 (fun i3 => ?_)
    refine z_callV zmd_X4_planPart rfl (by decide) zl_RX4_67 zin_X4_planPart zsel_X4_planPart (B_X4_planPart (d := d - 1) b2 ((CF.planL 7 _ (CF.plan (S := (R, C)) hF)).part) w2 _ i3 (lpart_iv (S := (lplanL g f e 7 (lplan (R, C) none 125))) (lplanL_iv 7 _ (lplan_iv (S := (R, C)) hl))) (by omega)) (b2.i 9 rfl) rfl rfl (by omega) rfl dX4_planParts_46 (fun r4 g4 f4 mc4 ms4 q4 => ?_)
    obtain ⟨rfl, rfl, rfl, hc4, hs4, w4, k4, b4⟩ := q4
    refine z_aload0 dX4_planParts_49 ?_
    refine z_aload1 dX4_planParts_50 ?_
    refine zd_getN w4 b4 fl_RX4_73 ((hi.le k2).le k4) (by decide) (by decide) dX4_planParts_51 (fun i5 => ?_)
    show zS _ _ _ _ _ _ _ 54 _ _ _ _ _
    refine z_callV zmd_X4_planPart rfl (by decide) zl_RX4_67 zin_X4_planPart zsel_X4_planPart (B_X4_planPart (d := d - 1) b4 (((CF.planL 7 _ (CF.plan (S := (R, C)) hF)).part).part) w4 _ i5 (lpart_iv (lpart_iv (S := (lplanL g f e 7 (lplan (R, C) none 125))) (lplanL_iv 7 _ (lplan_iv (S := (R, C)) hl)))) (by omega)) (b4.i 9 rfl) rfl rfl (by omega) rfl dX4_planParts_54 (fun r6 g6 f6 mc6 ms6 q6 => ?_)
    obtain ⟨rfl, rfl, rfl, hc6, hs6, w6, k6, b6⟩ := q6
    refine z_ret dX4_planParts_57 rfl ?_
    show zCy _ _ _ _ _ _ (lpart (lpart (lpart (lclauses g f (R, C) e) (g.2.2.2 e 4)) (g.2.2.2 e 3)) (g.2.2.2 e 2)).1 _ (lpart (lpart (lpart (lclauses g f (R, C) e) (g.2.2.2 e 4)) (g.2.2.2 e 3)) (g.2.2.2 e 2)).2 _ _ _ _ _ _ _
    rw [e1]
    exact ⟨rfl, rfl, rfl, by omega, by omega, w6, ((k2.tr k4).tr k6), b6⟩
def ln1 (C : zI) : zI := if C 9 2 = 0 then C else lput C 32
def ln2 (C : zI) (v : Int32) : zI := if v < 100 then C else lput C (48 + v / 100)
def ln3 (C : zI) (v : Int32) : zI := if v < 10 then C else lput C (48 + (v / 10 - v / 10 / 10 * 10))
def lnum (C : zI) (v : Int32) : zI := zup (lput (ln3 (ln2 (ln1 C) v) v) (48 + (v - v / 10 * 10))) 9 2 1
theorem ln1_iv {C : zI} (h : iv 241 (C 9 1)) : iv 241 (ln1 C 9 1) := by
  unfold ln1
  split
  · exact h
  · exact lput_iv h
theorem ln2_iv {C : zI} {v : Int32} (h : iv 241 (C 9 1)) : iv 241 (ln2 C v 9 1) := by
  unfold ln2
  split
  · exact h
  · exact lput_iv h
theorem ln3_iv {C : zI} {v : Int32} (h : iv 241 (C 9 1)) : iv 241 (ln3 C v 9 1) := by
  unfold ln3
  split
  · exact h
  · exact lput_iv h
theorem lnum_iv {C : zI} {v : Int32} (h : iv 241 (C 9 1)) : iv 241 (lnum C v 9 1) := by
  show iv 241 (zup (lput _ _) 9 2 1 9 1)
  rw [zup_ne _ _ _ _ (by omega)]
  exact lput_iv (ln3_iv (ln2_iv (ln1_iv h)))
theorem ln1_t {C : zI} (h : C 9 2 = 0) : ln1 C = C := if_pos h
theorem ln1_f {C : zI} (h : ¬ C 9 2 = 0) : ln1 C = lput C 32 := if_neg h
theorem ln2_t {C : zI} {v : Int32} (h : v < 100) : ln2 C v = C := if_pos h
theorem ln2_f {C : zI} {v : Int32} (h : ¬ v < 100) : ln2 C v = lput C (48 + v / 100) := if_neg h
theorem ln3_t {C : zI} {v : Int32} (h : v < 10) : ln3 C v = C := if_pos h
theorem ln3_f {C : zI} {v : Int32} (h : ¬ v < 10) : ln3 C v = lput C (48 + (v / 10 - v / 10 / 10 * 10)) := if_neg h
set_option maxRecDepth 20000 in
set_option maxHeartbeats 400000 in
theorem B_X4_putNumber {l : Launch} {d : Nat} {D : zD} {b0 : Nat} {g : zG} {f C : zI} {R : zRf} {c : Nat} (hW : CW b0 g c) (hF : CF c R) (hw : zOK b0 zNo (gv c g R)) (v : Int32) (hl : iv 241 (C 9 1)) (hd : 1 ≤ d) : zM l d D b0 mX4_putNumber [.ref (c + 9), .int v] (gv c g R) (cv c f C) (zCy b0 zNo c g none g R f (lnum C v) 0 0) := by
  refine zM.start zmd_X4_putNumber (Nat.le_of_ble_eq_true rfl) ⟨rfl, rfl, trivial⟩ [some (.ref (c + 9)), some (.int v)] rfl ?_
  refine z_aload0 dX4_putNumber_0 ?_
  refine zc_getI (j := 9) hW fl_RX4_31 rfl dX4_putNumber_1 ?_
  refine z_if_eq (tgt := 13) dX4_putNumber_4 (by decide) (fun c4 => ?_) (fun c4 => ?_)
  · show zS _ _ _ _ _ _ _ 13 _ _ _ _ _
    refine z_iload1 dX4_putNumber_13 ?_
    refine z_bipush (v := 100) dX4_putNumber_14 (by decide) ?_
    refine z_icmp_lt (tgt := 30) dX4_putNumber_16 (by decide) (fun c16 => ?_) (fun c16 => ?_)
    · show zS _ _ _ _ _ _ _ 30 _ _ _ _ _
      refine z_iload1 dX4_putNumber_30 ?_
      refine z_bipush (v := 10) dX4_putNumber_31 (by decide) ?_
      refine z_icmp_lt (tgt := 50) dX4_putNumber_33 (by decide) (fun c33 => ?_) (fun c33 => ?_)
      · show zS _ _ _ _ _ _ _ 50 _ _ _ _ _
        refine z_aload0 dX4_putNumber_50 ?_
        refine z_bipush (v := 48) dX4_putNumber_51 (by decide) ?_
        refine z_iload1 dX4_putNumber_53 ?_
        refine z_bipush (v := 10) dX4_putNumber_54 (by decide) ?_
        refine z_irem dX4_putNumber_56 (by decide) ?_
        refine z_iadd dX4_putNumber_57 ?_
        refine z_callV zmd_X4_put rfl (by decide) zl_RX4_40 zin_X4_put zsel_X4_put (B_X4_put (d := d - 1) hW hF hw _ hl) (hW.i 9 rfl) rfl rfl (by omega) rfl dX4_putNumber_58 (fun r1 g1 f1 mc1 ms1 q1 => ?_)
        obtain ⟨rfl, rfl, rfl, hc1, hs1, w1, k1, b1⟩ := q1
        refine z_aload0 dX4_putNumber_61 ?_
        refine z_iconst (v := 1) dX4_putNumber_62 (by decide) ?_
        refine zc_putI (j := 9) b1 fl_RX4_31 rfl dX4_putNumber_63 ?_
        refine z_ret dX4_putNumber_66 rfl ?_
        rw [show lnum C v = zup (lput (ln3 (ln2 (ln1 C) v) v) (48 + (v - v / 10 * 10))) 9 2 1 from rfl, ln1_t c4, ln2_t c16, ln3_t c33]
        exact ⟨rfl, rfl, rfl, by omega, by omega, w1, k1, b1⟩
      · show zS _ _ _ _ _ _ _ 36 _ _ _ _ _
        refine z_aload0 dX4_putNumber_36 ?_
        refine z_bipush (v := 48) dX4_putNumber_37 (by decide) ?_
        refine z_iload1 dX4_putNumber_39 ?_
        refine z_bipush (v := 10) dX4_putNumber_40 (by decide) ?_
        refine z_idiv dX4_putNumber_42 (by decide) ?_
        refine z_bipush (v := 10) dX4_putNumber_43 (by decide) ?_
        refine z_irem dX4_putNumber_45 (by decide) ?_
        refine z_iadd dX4_putNumber_46 ?_
        refine z_callV zmd_X4_put rfl (by decide) zl_RX4_40 zin_X4_put zsel_X4_put (B_X4_put (d := d - 1) hW hF hw _ hl) (hW.i 9 rfl) rfl rfl (by omega) rfl dX4_putNumber_47 (fun r2 g2 f2 mc2 ms2 q2 => ?_)
        obtain ⟨rfl, rfl, rfl, hc2, hs2, w2, k2, b2⟩ := q2
        refine z_aload0 dX4_putNumber_50 ?_
        refine z_bipush (v := 48) dX4_putNumber_51 (by decide) ?_
        show zS _ _ _ _ _ _ _ 53 _ _ _ _ _
        refine z_iload1 dX4_putNumber_53 ?_
        refine z_bipush (v := 10) dX4_putNumber_54 (by decide) ?_
        refine z_irem dX4_putNumber_56 (by decide) ?_
        refine z_iadd dX4_putNumber_57 ?_
        refine z_callV zmd_X4_put rfl (by decide) zl_RX4_40 zin_X4_put zsel_X4_put (B_X4_put (d := d - 1) b2 hF w2 _ (lput_iv hl)) (b2.i 9 rfl) rfl rfl (by omega) rfl dX4_putNumber_58 (fun r3 g3 f3 mc3 ms3 q3 => ?_)
        obtain ⟨rfl, rfl, rfl, hc3, hs3, w3, k3, b3⟩ := q3
        refine z_aload0 dX4_putNumber_61 ?_
        refine z_iconst (v := 1) dX4_putNumber_62 (by decide) ?_
        refine zc_putI (j := 9) b3 fl_RX4_31 rfl dX4_putNumber_63 ?_
        refine z_ret dX4_putNumber_66 rfl ?_
        rw [show lnum C v = zup (lput (ln3 (ln2 (ln1 C) v) v) (48 + (v - v / 10 * 10))) 9 2 1 from rfl, ln1_t c4, ln2_t c16, ln3_f c33]
        exact ⟨rfl, rfl, rfl, by omega, by omega, w3, (k2.tr k3), b3⟩
    · show zS _ _ _ _ _ _ _ 19 _ _ _ _ _
      refine z_aload0 dX4_putNumber_19 ?_
      refine z_bipush (v := 48) dX4_putNumber_20 (by decide) ?_
      refine z_iload1 dX4_putNumber_22 ?_
      refine z_bipush (v := 100) dX4_putNumber_23 (by decide) ?_
      refine z_idiv dX4_putNumber_25 (by decide) ?_
      refine z_iadd dX4_putNumber_26 ?_
      refine z_callV zmd_X4_put rfl (by decide) zl_RX4_40 zin_X4_put zsel_X4_put (B_X4_put (d := d - 1) hW hF hw _ hl) (hW.i 9 rfl) rfl rfl (by omega) rfl dX4_putNumber_27 (fun r4 g4 f4 mc4 ms4 q4 => ?_)
      obtain ⟨rfl, rfl, rfl, hc4, hs4, w4, k4, b4⟩ := q4
      refine z_iload1 dX4_putNumber_30 ?_
      refine z_bipush (v := 10) dX4_putNumber_31 (by decide) ?_
      refine z_icmp_lt (tgt := 50) dX4_putNumber_33 (by decide) (fun c33 => ?_) (fun c33 => ?_)
      · show zS _ _ _ _ _ _ _ 50 _ _ _ _ _
        refine z_aload0 dX4_putNumber_50 ?_
        refine z_bipush (v := 48) dX4_putNumber_51 (by decide) ?_
        refine z_iload1 dX4_putNumber_53 ?_
        refine z_bipush (v := 10) dX4_putNumber_54 (by decide) ?_
        refine z_irem dX4_putNumber_56 (by decide) ?_
        refine z_iadd dX4_putNumber_57 ?_
        refine z_callV zmd_X4_put rfl (by decide) zl_RX4_40 zin_X4_put zsel_X4_put (B_X4_put (d := d - 1) b4 hF w4 _ (lput_iv hl)) (b4.i 9 rfl) rfl rfl (by omega) rfl dX4_putNumber_58 (fun r5 g5 f5 mc5 ms5 q5 => ?_)
        obtain ⟨rfl, rfl, rfl, hc5, hs5, w5, k5, b5⟩ := q5
        refine z_aload0 dX4_putNumber_61 ?_
        refine z_iconst (v := 1) dX4_putNumber_62 (by decide) ?_
        refine zc_putI (j := 9) b5 fl_RX4_31 rfl dX4_putNumber_63 ?_
        refine z_ret dX4_putNumber_66 rfl ?_
        rw [show lnum C v = zup (lput (ln3 (ln2 (ln1 C) v) v) (48 + (v - v / 10 * 10))) 9 2 1 from rfl, ln1_t c4, ln2_f c16, ln3_t c33]
        exact ⟨rfl, rfl, rfl, by omega, by omega, w5, (k4.tr k5), b5⟩
      · show zS _ _ _ _ _ _ _ 36 _ _ _ _ _
        refine z_aload0 dX4_putNumber_36 ?_
        refine z_bipush (v := 48) dX4_putNumber_37 (by decide) ?_
        refine z_iload1 dX4_putNumber_39 ?_
        refine z_bipush (v := 10) dX4_putNumber_40 (by decide) ?_
        refine z_idiv dX4_putNumber_42 (by decide) ?_
        refine z_bipush (v := 10) dX4_putNumber_43 (by decide) ?_
        refine z_irem dX4_putNumber_45 (by decide) ?_
        refine z_iadd dX4_putNumber_46 ?_
        refine z_callV zmd_X4_put rfl (by decide) zl_RX4_40 zin_X4_put zsel_X4_put (B_X4_put (d := d - 1) b4 hF w4 _ (lput_iv hl)) (b4.i 9 rfl) rfl rfl (by omega) rfl dX4_putNumber_47 (fun r6 g6 f6 mc6 ms6 q6 => ?_)
        obtain ⟨rfl, rfl, rfl, hc6, hs6, w6, k6, b6⟩ := q6
        refine z_aload0 dX4_putNumber_50 ?_
        refine z_bipush (v := 48) dX4_putNumber_51 (by decide) ?_
        show zS _ _ _ _ _ _ _ 53 _ _ _ _ _
        refine z_iload1 dX4_putNumber_53 ?_
        refine z_bipush (v := 10) dX4_putNumber_54 (by decide) ?_
        refine z_irem dX4_putNumber_56 (by decide) ?_
        refine z_iadd dX4_putNumber_57 ?_
        refine z_callV zmd_X4_put rfl (by decide) zl_RX4_40 zin_X4_put zsel_X4_put (B_X4_put (d := d - 1) b6 hF w6 _ (lput_iv (lput_iv hl))) (b6.i 9 rfl) rfl rfl (by omega) rfl dX4_putNumber_58 (fun r7 g7 f7 mc7 ms7 q7 => ?_)
        obtain ⟨rfl, rfl, rfl, hc7, hs7, w7, k7, b7⟩ := q7
        refine z_aload0 dX4_putNumber_61 ?_
        refine z_iconst (v := 1) dX4_putNumber_62 (by decide) ?_
        refine zc_putI (j := 9) b7 fl_RX4_31 rfl dX4_putNumber_63 ?_
        refine z_ret dX4_putNumber_66 rfl ?_
        rw [show lnum C v = zup (lput (ln3 (ln2 (ln1 C) v) v) (48 + (v - v / 10 * 10))) 9 2 1 from rfl, ln1_t c4, ln2_f c16, ln3_f c33]
        exact ⟨rfl, rfl, rfl, by omega, by omega, w7, ((k4.tr k6).tr k7), b7⟩
  · show zS _ _ _ _ _ _ _ 7 _ _ _ _ _
    refine z_aload0 dX4_putNumber_7 ?_
    refine z_bipush (v := 32) dX4_putNumber_8 (by decide) ?_
    refine z_callV zmd_X4_put rfl (by decide) zl_RX4_40 zin_X4_put zsel_X4_put (B_X4_put (d := d - 1) hW hF hw _ hl) (hW.i 9 rfl) rfl rfl (by omega) rfl dX4_putNumber_10 (fun r8 g8 f8 mc8 ms8 q8 => ?_)
    obtain ⟨rfl, rfl, rfl, hc8, hs8, w8, k8, b8⟩ := q8
    refine z_iload1 dX4_putNumber_13 ?_
    refine z_bipush (v := 100) dX4_putNumber_14 (by decide) ?_
    refine z_icmp_lt (tgt := 30) dX4_putNumber_16 (by decide) (fun c16 => ?_) (fun c16 => ?_)
    · show zS _ _ _ _ _ _ _ 30 _ _ _ _ _
      refine z_iload1 dX4_putNumber_30 ?_
      refine z_bipush (v := 10) dX4_putNumber_31 (by decide) ?_
      refine z_icmp_lt (tgt := 50) dX4_putNumber_33 (by decide) (fun c33 => ?_) (fun c33 => ?_)
      · show zS _ _ _ _ _ _ _ 50 _ _ _ _ _
        refine z_aload0 dX4_putNumber_50 ?_
        refine z_bipush (v := 48) dX4_putNumber_51 (by decide) ?_
        refine z_iload1 dX4_putNumber_53 ?_
        refine z_bipush (v := 10) dX4_putNumber_54 (by decide) ?_
        refine z_irem dX4_putNumber_56 (by decide) ?_
        refine z_iadd dX4_putNumber_57 ?_
        refine z_callV zmd_X4_put rfl (by decide) zl_RX4_40 zin_X4_put zsel_X4_put (B_X4_put (d := d - 1) b8 hF w8 _ (lput_iv hl)) (b8.i 9 rfl) rfl rfl (by omega) rfl dX4_putNumber_58 (fun r9 g9 f9 mc9 ms9 q9 => ?_)
        obtain ⟨rfl, rfl, rfl, hc9, hs9, w9, k9, b9⟩ := q9
        refine z_aload0 dX4_putNumber_61 ?_
        refine z_iconst (v := 1) dX4_putNumber_62 (by decide) ?_
        refine zc_putI (j := 9) b9 fl_RX4_31 rfl dX4_putNumber_63 ?_
        refine z_ret dX4_putNumber_66 rfl ?_
        rw [show lnum C v = zup (lput (ln3 (ln2 (ln1 C) v) v) (48 + (v - v / 10 * 10))) 9 2 1 from rfl, ln1_f c4, ln2_t c16, ln3_t c33]
        exact ⟨rfl, rfl, rfl, by omega, by omega, w9, (k8.tr k9), b9⟩
      · show zS _ _ _ _ _ _ _ 36 _ _ _ _ _
        refine z_aload0 dX4_putNumber_36 ?_
        refine z_bipush (v := 48) dX4_putNumber_37 (by decide) ?_
        refine z_iload1 dX4_putNumber_39 ?_
        refine z_bipush (v := 10) dX4_putNumber_40 (by decide) ?_
        refine z_idiv dX4_putNumber_42 (by decide) ?_
        refine z_bipush (v := 10) dX4_putNumber_43 (by decide) ?_
        refine z_irem dX4_putNumber_45 (by decide) ?_
        refine z_iadd dX4_putNumber_46 ?_
        refine z_callV zmd_X4_put rfl (by decide) zl_RX4_40 zin_X4_put zsel_X4_put (B_X4_put (d := d - 1) b8 hF w8 _ (lput_iv hl)) (b8.i 9 rfl) rfl rfl (by omega) rfl dX4_putNumber_47 (fun r10 g10 f10 mc10 ms10 q10 => ?_)
        obtain ⟨rfl, rfl, rfl, hc10, hs10, w10, k10, b10⟩ := q10
        refine z_aload0 dX4_putNumber_50 ?_
        refine z_bipush (v := 48) dX4_putNumber_51 (by decide) ?_
        show zS _ _ _ _ _ _ _ 53 _ _ _ _ _
        refine z_iload1 dX4_putNumber_53 ?_
        refine z_bipush (v := 10) dX4_putNumber_54 (by decide) ?_
        refine z_irem dX4_putNumber_56 (by decide) ?_
        refine z_iadd dX4_putNumber_57 ?_
        refine z_callV zmd_X4_put rfl (by decide) zl_RX4_40 zin_X4_put zsel_X4_put (B_X4_put (d := d - 1) b10 hF w10 _ (lput_iv (lput_iv hl))) (b10.i 9 rfl) rfl rfl (by omega) rfl dX4_putNumber_58 (fun r11 g11 f11 mc11 ms11 q11 => ?_)
        obtain ⟨rfl, rfl, rfl, hc11, hs11, w11, k11, b11⟩ := q11
        refine z_aload0 dX4_putNumber_61 ?_
        refine z_iconst (v := 1) dX4_putNumber_62 (by decide) ?_
        refine zc_putI (j := 9) b11 fl_RX4_31 rfl dX4_putNumber_63 ?_
        refine z_ret dX4_putNumber_66 rfl ?_
        rw [show lnum C v = zup (lput (ln3 (ln2 (ln1 C) v) v) (48 + (v - v / 10 * 10))) 9 2 1 from rfl, ln1_f c4, ln2_t c16, ln3_f c33]
        exact ⟨rfl, rfl, rfl, by omega, by omega, w11, ((k8.tr k10).tr k11), b11⟩
    · show zS _ _ _ _ _ _ _ 19 _ _ _ _ _
      refine z_aload0 dX4_putNumber_19 ?_
      refine z_bipush (v := 48) dX4_putNumber_20 (by decide) ?_
      refine z_iload1 dX4_putNumber_22 ?_
      refine z_bipush (v := 100) dX4_putNumber_23 (by decide) ?_
      refine z_idiv dX4_putNumber_25 (by decide) ?_
      refine z_iadd dX4_putNumber_26 ?_
      refine z_callV zmd_X4_put rfl (by decide) zl_RX4_40 zin_X4_put zsel_X4_put (B_X4_put (d := d - 1) b8 hF w8 _ (lput_iv hl)) (b8.i 9 rfl) rfl rfl (by omega) rfl dX4_putNumber_27 (fun r12 g12 f12 mc12 ms12 q12 => ?_)
      obtain ⟨rfl, rfl, rfl, hc12, hs12, w12, k12, b12⟩ := q12
      refine z_iload1 dX4_putNumber_30 ?_
      refine z_bipush (v := 10) dX4_putNumber_31 (by decide) ?_
      refine z_icmp_lt (tgt := 50) dX4_putNumber_33 (by decide) (fun c33 => ?_) (fun c33 => ?_)
      · show zS _ _ _ _ _ _ _ 50 _ _ _ _ _
        refine z_aload0 dX4_putNumber_50 ?_
        refine z_bipush (v := 48) dX4_putNumber_51 (by decide) ?_
        refine z_iload1 dX4_putNumber_53 ?_
        refine z_bipush (v := 10) dX4_putNumber_54 (by decide) ?_
        refine z_irem dX4_putNumber_56 (by decide) ?_
        refine z_iadd dX4_putNumber_57 ?_
        refine z_callV zmd_X4_put rfl (by decide) zl_RX4_40 zin_X4_put zsel_X4_put (B_X4_put (d := d - 1) b12 hF w12 _ (lput_iv (lput_iv hl))) (b12.i 9 rfl) rfl rfl (by omega) rfl dX4_putNumber_58 (fun r13 g13 f13 mc13 ms13 q13 => ?_)
        obtain ⟨rfl, rfl, rfl, hc13, hs13, w13, k13, b13⟩ := q13
        refine z_aload0 dX4_putNumber_61 ?_
        refine z_iconst (v := 1) dX4_putNumber_62 (by decide) ?_
        refine zc_putI (j := 9) b13 fl_RX4_31 rfl dX4_putNumber_63 ?_
        refine z_ret dX4_putNumber_66 rfl ?_
        rw [show lnum C v = zup (lput (ln3 (ln2 (ln1 C) v) v) (48 + (v - v / 10 * 10))) 9 2 1 from rfl, ln1_f c4, ln2_f c16, ln3_t c33]
        exact ⟨rfl, rfl, rfl, by omega, by omega, w13, ((k8.tr k12).tr k13), b13⟩
      · show zS _ _ _ _ _ _ _ 36 _ _ _ _ _
        refine z_aload0 dX4_putNumber_36 ?_
        refine z_bipush (v := 48) dX4_putNumber_37 (by decide) ?_
        refine z_iload1 dX4_putNumber_39 ?_
        refine z_bipush (v := 10) dX4_putNumber_40 (by decide) ?_
        refine z_idiv dX4_putNumber_42 (by decide) ?_
        refine z_bipush (v := 10) dX4_putNumber_43 (by decide) ?_
        refine z_irem dX4_putNumber_45 (by decide) ?_
        refine z_iadd dX4_putNumber_46 ?_
        refine z_callV zmd_X4_put rfl (by decide) zl_RX4_40 zin_X4_put zsel_X4_put (B_X4_put (d := d - 1) b12 hF w12 _ (lput_iv (lput_iv hl))) (b12.i 9 rfl) rfl rfl (by omega) rfl dX4_putNumber_47 (fun r14 g14 f14 mc14 ms14 q14 => ?_)
        obtain ⟨rfl, rfl, rfl, hc14, hs14, w14, k14, b14⟩ := q14
        refine z_aload0 dX4_putNumber_50 ?_
        refine z_bipush (v := 48) dX4_putNumber_51 (by decide) ?_
        show zS _ _ _ _ _ _ _ 53 _ _ _ _ _
        refine z_iload1 dX4_putNumber_53 ?_
        refine z_bipush (v := 10) dX4_putNumber_54 (by decide) ?_
        refine z_irem dX4_putNumber_56 (by decide) ?_
        refine z_iadd dX4_putNumber_57 ?_
        refine z_callV zmd_X4_put rfl (by decide) zl_RX4_40 zin_X4_put zsel_X4_put (B_X4_put (d := d - 1) b14 hF w14 _ (lput_iv (lput_iv (lput_iv hl)))) (b14.i 9 rfl) rfl rfl (by omega) rfl dX4_putNumber_58 (fun r15 g15 f15 mc15 ms15 q15 => ?_)
        obtain ⟨rfl, rfl, rfl, hc15, hs15, w15, k15, b15⟩ := q15
        refine z_aload0 dX4_putNumber_61 ?_
        refine z_iconst (v := 1) dX4_putNumber_62 (by decide) ?_
        refine zc_putI (j := 9) b15 fl_RX4_31 rfl dX4_putNumber_63 ?_
        refine z_ret dX4_putNumber_66 rfl ?_
        rw [show lnum C v = zup (lput (ln3 (ln2 (ln1 C) v) v) (48 + (v - v / 10 * 10))) 9 2 1 from rfl, ln1_f c4, ln2_f c16, ln3_f c33]
        exact ⟨rfl, rfl, rfl, by omega, by omega, w15, (((k8.tr k12).tr k14).tr k15), b15⟩
def lhead (f C : zI) (e : Nat) : zI := if f e 0 = 38 then lput (lput C 38) (48 + f e 1) else if f e 0 = 48 then lnum C (f e 1) else if f e 0 = 61 then lput (lput C 61) (97 + f e 1) else if f e 0 = 94 then lput (lput C (f e 0)) (65 + f e 1) else if f e 0 = 97 then lput C (97 + f e 1) else if f e 0 = 126 then lput (lput C (f e 0)) (65 + f e 1) else lput C (f e 0)
theorem lhead_38 {f C : zI} {e : Nat} (h : f e 0 = 38) : lhead f C e = lput (lput C 38) (48 + f e 1) := if_pos h
theorem lhead_48 {f C : zI} {e : Nat} (h : f e 0 = 48) : lhead f C e = lnum C (f e 1) := (if_neg (by rw [h]; decide)).trans (if_pos h)
theorem lhead_61 {f C : zI} {e : Nat} (h : f e 0 = 61) : lhead f C e = lput (lput C 61) (97 + f e 1) := (if_neg (by rw [h]; decide)).trans ((if_neg (by rw [h]; decide)).trans (if_pos h))
theorem lhead_94 {f C : zI} {e : Nat} (h : f e 0 = 94) : lhead f C e = lput (lput C (f e 0)) (65 + f e 1) := (if_neg (by rw [h]; decide)).trans ((if_neg (by rw [h]; decide)).trans ((if_neg (by rw [h]; decide)).trans (if_pos h)))
theorem lhead_97 {f C : zI} {e : Nat} (h : f e 0 = 97) : lhead f C e = lput C (97 + f e 1) := (if_neg (by rw [h]; decide)).trans ((if_neg (by rw [h]; decide)).trans ((if_neg (by rw [h]; decide)).trans ((if_neg (by rw [h]; decide)).trans (if_pos h))))
theorem lhead_126 {f C : zI} {e : Nat} (h : f e 0 = 126) : lhead f C e = lput (lput C (f e 0)) (65 + f e 1) := (if_neg (by rw [h]; decide)).trans ((if_neg (by rw [h]; decide)).trans ((if_neg (by rw [h]; decide)).trans ((if_neg (by rw [h]; decide)).trans ((if_neg (by rw [h]; decide)).trans (if_pos h)))))
theorem lhead_d {f C : zI} {e : Nat} (h0 : ¬ f e 0 = 38) (h1 : ¬ f e 0 = 48) (h2 : ¬ f e 0 = 61) (h3 : ¬ f e 0 = 94) (h4 : ¬ f e 0 = 97) (h5 : ¬ f e 0 = 126) : lhead f C e = lput C (f e 0) := by
  unfold lhead
  rw [if_neg h0, if_neg h1, if_neg h2, if_neg h3, if_neg h4, if_neg h5]
theorem lhead_iv {f C : zI} {e : Nat} (h : iv 241 (C 9 1)) : iv 241 (lhead f C e 9 1) := by
  unfold lhead
  split
  · exact lput_iv (lput_iv h)
  · split
    · exact lnum_iv h
    · split
      · exact lput_iv (lput_iv h)
      · split
        · exact lput_iv (lput_iv h)
        · split
          · exact lput_iv h
          · split
            · exact lput_iv (lput_iv h)
            · exact lput_iv h
theorem lnum_r {C : zI} {v : Int32} {r : Nat} (h1 : r ≠ 9) (h2 : r ≠ 10) : lnum C v r = C r := by
  have e1 : ∀ C, ln1 C r = C r := fun C => by
    unfold ln1
    split
    · rfl
    · exact lput_r h1 h2
  have e2 : ∀ C, ln2 C v r = C r := fun C => by
    unfold ln2
    split
    · rfl
    · exact lput_r h1 h2
  have e3 : ∀ C, ln3 C v r = C r := fun C => by
    unfold ln3
    split
    · rfl
    · exact lput_r h1 h2
  show zup (lput _ _) 9 2 1 r = _
  rw [zup_r h1, lput_r h1 h2, e3, e2, e1]
theorem lnum_5 {C : zI} {v : Int32} : lnum C v 9 5 = C 9 5 := by
  have e1 : ∀ C, ln1 C 9 5 = C 9 5 := fun C => by
    unfold ln1
    split
    · rfl
    · exact lput_5
  have e2 : ∀ C, ln2 C v 9 5 = C 9 5 := fun C => by
    unfold ln2
    split
    · rfl
    · exact lput_5
  have e3 : ∀ C, ln3 C v 9 5 = C 9 5 := fun C => by
    unfold ln3
    split
    · rfl
    · exact lput_5
  show zup (lput _ _) 9 2 1 9 5 = _
  rw [zup_ne _ _ _ _ (by omega), lput_5, e3, e2, e1]
theorem lhead_r {f C : zI} {e r : Nat} (h1 : r ≠ 9) (h2 : r ≠ 10) : lhead f C e r = C r := by
  unfold lhead
  repeat' split
  all_goals first
    | exact (lput_r h1 h2).trans (lput_r h1 h2)
    | exact lput_r h1 h2
    | exact lnum_r h1 h2
theorem lhead_5 {f C : zI} {e : Nat} : lhead f C e 9 5 = C 9 5 := by
  unfold lhead
  repeat' split
  all_goals first
    | exact lput_5.trans lput_5
    | exact lput_5
    | exact lnum_5
set_option maxRecDepth 20000 in
set_option maxHeartbeats 400000 in
theorem B_X4_putHead {l : Launch} {d : Nat} {D : zD} {b0 : Nat} {g : zG} {f C : zI} {R : zRf} {c : Nat} (hW : CW b0 g c) (hF : CF c R) (hw : zOK b0 zNo (gv c g R)) (e : Nat) (hi : zIn b0 g e 1) (hl : iv 241 (C 9 1)) (hd : 2 ≤ d) : zM l d D b0 mX4_putHead [.ref (c + 9), .ref e] (gv c g R) (cv c f C) (zCy b0 zNo c g none g R f (lhead f C e) 0 0) := by
  refine zM.start zmd_X4_putHead (Nat.le_of_ble_eq_true rfl) ⟨rfl, rfl, trivial⟩ [some (.ref (c + 9)), some (.ref e)] rfl ?_
  refine z_aload1 dX4_putHead_0 ?_
  refine zd_getI hW fl_RX4_84 hi (by decide) dX4_putHead_1 ?_
  refine z_look dX4_putHead_4 (by decide +kernel) (by decide +kernel) ?_
  refine ⟨fun c4_0 => ?_, fun nc4_0 => ?_⟩
  · show zS _ _ _ _ _ _ _ 131 _ _ _ _ _
    rw [lhead_38 c4_0]
    refine z_aload0 dX4_putHead_131 ?_
    refine z_bipush (v := 38) dX4_putHead_132 (by decide) ?_
    refine z_callV zmd_X4_put rfl (by decide) zl_RX4_40 zin_X4_put zsel_X4_put (B_X4_put (d := d - 1) hW hF hw _ hl) (hW.i 9 rfl) rfl rfl (by omega) rfl dX4_putHead_134 (fun r1 g1 f1 mc1 ms1 q1 => ?_)
    obtain ⟨rfl, rfl, rfl, hc1, hs1, w1, k1, b1⟩ := q1
    refine z_aload0 dX4_putHead_137 ?_
    refine z_bipush (v := 48) dX4_putHead_138 (by decide) ?_
    refine z_aload1 dX4_putHead_140 ?_
    refine zd_getI b1 fl_RX4_87 (hi.le k1) (by decide) dX4_putHead_141 ?_
    refine z_iadd dX4_putHead_144 ?_
    refine z_callV zmd_X4_put rfl (by decide) zl_RX4_40 zin_X4_put zsel_X4_put (B_X4_put (d := d - 1) b1 hF w1 _ (lput_iv hl)) (b1.i 9 rfl) rfl rfl (by omega) rfl dX4_putHead_145 (fun r2 g2 f2 mc2 ms2 q2 => ?_)
    obtain ⟨rfl, rfl, rfl, hc2, hs2, w2, k2, b2⟩ := q2
    refine z_goto (tgt := 159) dX4_putHead_148 (by decide) ?_
    show zS _ _ _ _ _ _ _ 159 _ _ _ _ _
    refine z_ret dX4_putHead_159 rfl ?_
    exact ⟨rfl, rfl, rfl, by omega, by omega, w2, (k1.tr k2), b2⟩
  refine ⟨fun c4_1 => ?_, fun nc4_1 => ?_⟩
  · show zS _ _ _ _ _ _ _ 64 _ _ _ _ _
    rw [lhead_48 c4_1]
    refine z_aload0 dX4_putHead_64 ?_
    refine z_aload1 dX4_putHead_65 ?_
    refine zd_getI hW fl_RX4_87 hi (by decide) dX4_putHead_66 ?_
    refine z_callV zmd_X4_putNumber rfl (by decide) zl_RX4_90 zin_X4_putNumber zsel_X4_putNumber (B_X4_putNumber (d := d - 1) hW hF hw _ hl (by omega)) (hW.i 9 rfl) rfl rfl (by omega) rfl dX4_putHead_69 (fun r3 g3 f3 mc3 ms3 q3 => ?_)
    obtain ⟨rfl, rfl, rfl, hc3, hs3, w3, k3, b3⟩ := q3
    refine z_goto (tgt := 159) dX4_putHead_72 (by decide) ?_
    show zS _ _ _ _ _ _ _ 159 _ _ _ _ _
    refine z_ret dX4_putHead_159 rfl ?_
    exact ⟨rfl, rfl, rfl, by omega, by omega, w3, k3, b3⟩
  refine ⟨fun c4_2 => ?_, fun nc4_2 => ?_⟩
  · show zS _ _ _ _ _ _ _ 89 _ _ _ _ _
    rw [lhead_61 c4_2]
    refine z_aload0 dX4_putHead_89 ?_
    refine z_bipush (v := 61) dX4_putHead_90 (by decide) ?_
    refine z_callV zmd_X4_put rfl (by decide) zl_RX4_40 zin_X4_put zsel_X4_put (B_X4_put (d := d - 1) hW hF hw _ hl) (hW.i 9 rfl) rfl rfl (by omega) rfl dX4_putHead_92 (fun r4 g4 f4 mc4 ms4 q4 => ?_)
    obtain ⟨rfl, rfl, rfl, hc4, hs4, w4, k4, b4⟩ := q4
    refine z_aload0 dX4_putHead_95 ?_
    refine z_bipush (v := 97) dX4_putHead_96 (by decide) ?_
    refine z_aload1 dX4_putHead_98 ?_
    refine zd_getI b4 fl_RX4_87 (hi.le k4) (by decide) dX4_putHead_99 ?_
    refine z_iadd dX4_putHead_102 ?_
    refine z_callV zmd_X4_put rfl (by decide) zl_RX4_40 zin_X4_put zsel_X4_put (B_X4_put (d := d - 1) b4 hF w4 _ (lput_iv hl)) (b4.i 9 rfl) rfl rfl (by omega) rfl dX4_putHead_103 (fun r5 g5 f5 mc5 ms5 q5 => ?_)
    obtain ⟨rfl, rfl, rfl, hc5, hs5, w5, k5, b5⟩ := q5
    refine z_goto (tgt := 159) dX4_putHead_106 (by decide) ?_
    show zS _ _ _ _ _ _ _ 159 _ _ _ _ _
    refine z_ret dX4_putHead_159 rfl ?_
    exact ⟨rfl, rfl, rfl, by omega, by omega, w5, (k4.tr k5), b5⟩
  refine ⟨fun c4_3 => ?_, fun nc4_3 => ?_⟩
  · show zS _ _ _ _ _ _ _ 109 _ _ _ _ _
    rw [lhead_94 c4_3]
    refine z_aload0 dX4_putHead_109 ?_
    refine z_aload1 dX4_putHead_110 ?_
    refine zd_getI hW fl_RX4_84 hi (by decide) dX4_putHead_111 ?_
    refine z_callV zmd_X4_put rfl (by decide) zl_RX4_40 zin_X4_put zsel_X4_put (B_X4_put (d := d - 1) hW hF hw _ hl) (hW.i 9 rfl) rfl rfl (by omega) rfl dX4_putHead_114 (fun r6 g6 f6 mc6 ms6 q6 => ?_)
    obtain ⟨rfl, rfl, rfl, hc6, hs6, w6, k6, b6⟩ := q6
    refine z_aload0 dX4_putHead_117 ?_
    refine z_bipush (v := 65) dX4_putHead_118 (by decide) ?_
    refine z_aload1 dX4_putHead_120 ?_
    refine zd_getI b6 fl_RX4_87 (hi.le k6) (by decide) dX4_putHead_121 ?_
    refine z_iadd dX4_putHead_124 ?_
    refine z_callV zmd_X4_put rfl (by decide) zl_RX4_40 zin_X4_put zsel_X4_put (B_X4_put (d := d - 1) b6 hF w6 _ (lput_iv hl)) (b6.i 9 rfl) rfl rfl (by omega) rfl dX4_putHead_125 (fun r7 g7 f7 mc7 ms7 q7 => ?_)
    obtain ⟨rfl, rfl, rfl, hc7, hs7, w7, k7, b7⟩ := q7
    refine z_goto (tgt := 159) dX4_putHead_128 (by decide) ?_
    show zS _ _ _ _ _ _ _ 159 _ _ _ _ _
    refine z_ret dX4_putHead_159 rfl ?_
    exact ⟨rfl, rfl, rfl, by omega, by omega, w7, (k6.tr k7), b7⟩
  refine ⟨fun c4_4 => ?_, fun nc4_4 => ?_⟩
  · show zS _ _ _ _ _ _ _ 75 _ _ _ _ _
    rw [lhead_97 c4_4]
    refine z_aload0 dX4_putHead_75 ?_
    refine z_bipush (v := 97) dX4_putHead_76 (by decide) ?_
    refine z_aload1 dX4_putHead_78 ?_
    refine zd_getI hW fl_RX4_87 hi (by decide) dX4_putHead_79 ?_
    refine z_iadd dX4_putHead_82 ?_
    refine z_callV zmd_X4_put rfl (by decide) zl_RX4_40 zin_X4_put zsel_X4_put (B_X4_put (d := d - 1) hW hF hw _ hl) (hW.i 9 rfl) rfl rfl (by omega) rfl dX4_putHead_83 (fun r8 g8 f8 mc8 ms8 q8 => ?_)
    obtain ⟨rfl, rfl, rfl, hc8, hs8, w8, k8, b8⟩ := q8
    refine z_goto (tgt := 159) dX4_putHead_86 (by decide) ?_
    show zS _ _ _ _ _ _ _ 159 _ _ _ _ _
    refine z_ret dX4_putHead_159 rfl ?_
    exact ⟨rfl, rfl, rfl, by omega, by omega, w8, k8, b8⟩
  refine ⟨fun c4_5 => ?_, fun nc4_5 => ?_⟩
  · show zS _ _ _ _ _ _ _ 109 _ _ _ _ _
    rw [lhead_126 c4_5]
    refine z_aload0 dX4_putHead_109 ?_
    refine z_aload1 dX4_putHead_110 ?_
    refine zd_getI hW fl_RX4_84 hi (by decide) dX4_putHead_111 ?_
    refine z_callV zmd_X4_put rfl (by decide) zl_RX4_40 zin_X4_put zsel_X4_put (B_X4_put (d := d - 1) hW hF hw _ hl) (hW.i 9 rfl) rfl rfl (by omega) rfl dX4_putHead_114 (fun r9 g9 f9 mc9 ms9 q9 => ?_)
    obtain ⟨rfl, rfl, rfl, hc9, hs9, w9, k9, b9⟩ := q9
    refine z_aload0 dX4_putHead_117 ?_
    refine z_bipush (v := 65) dX4_putHead_118 (by decide) ?_
    refine z_aload1 dX4_putHead_120 ?_
    refine zd_getI b9 fl_RX4_87 (hi.le k9) (by decide) dX4_putHead_121 ?_
    refine z_iadd dX4_putHead_124 ?_
    refine z_callV zmd_X4_put rfl (by decide) zl_RX4_40 zin_X4_put zsel_X4_put (B_X4_put (d := d - 1) b9 hF w9 _ (lput_iv hl)) (b9.i 9 rfl) rfl rfl (by omega) rfl dX4_putHead_125 (fun r10 g10 f10 mc10 ms10 q10 => ?_)
    obtain ⟨rfl, rfl, rfl, hc10, hs10, w10, k10, b10⟩ := q10
    refine z_goto (tgt := 159) dX4_putHead_128 (by decide) ?_
    show zS _ _ _ _ _ _ _ 159 _ _ _ _ _
    refine z_ret dX4_putHead_159 rfl ?_
    exact ⟨rfl, rfl, rfl, by omega, by omega, w10, (k9.tr k10), b10⟩
  show zS _ _ _ _ _ _ _ 151 _ _ _ _ _
  rw [lhead_d nc4_0 nc4_1 nc4_2 nc4_3 nc4_4 nc4_5]
  refine z_aload0 dX4_putHead_151 ?_
  refine z_aload1 dX4_putHead_152 ?_
  refine zd_getI hW fl_RX4_84 hi (by decide) dX4_putHead_153 ?_
  refine z_callV zmd_X4_put rfl (by decide) zl_RX4_40 zin_X4_put zsel_X4_put (B_X4_put (d := d - 1) hW hF hw _ hl) (hW.i 9 rfl) rfl rfl (by omega) rfl dX4_putHead_156 (fun r11 g11 f11 mc11 ms11 q11 => ?_)
  obtain ⟨rfl, rfl, rfl, hc11, hs11, w11, k11, b11⟩ := q11
  refine z_ret dX4_putHead_159 rfl ?_
  exact ⟨rfl, rfl, rfl, by omega, by omega, w11, k11, b11⟩
theorem lparts_C {g : zG} {f : zI} {S : zRf × zI} {e r : Nat} (h1 : r ≠ 9) (h2 : r ≠ 12) : (lparts g f S e).2 r = S.2 r := by
  have hp : ∀ (S : zRf × zI) (o : Option Nat), (lpart S o).2 r = S.2 r := fun S o => by
    unfold lpart
    split
    · rfl
    · exact lplan_C h1 h2
  have hc : ∀ (S : zRf × zI) (x : Int32), (lplanC g f S e x).2 r = S.2 r := fun S x => by
    unfold lplanC
    split
    · rfl
    · rw [lplan_C h1 h2, lplan_C h1 h2, lplan_C h1 h2]
  have hl : ∀ (k : Nat) (S : zRf × zI), (lplanL g f e k S).2 r = S.2 r := by
    intro k
    induction k with
    | zero => intro S; rfl
    | succ k ih => intro S; show (lplanL g f e k (lplanC g f S e (nI k))).2 r = _; rw [ih, hc]
  have hcs : (lclauses g f S e).2 r = S.2 r := by
    unfold lclauses
    split
    · rfl
    · rw [hl, lplan_C h1 h2]
  show (lpart (lpart (lpart (lclauses g f S e) _) _) _).2 r = _
  rw [hp, hp, hp, hcs]
theorem lparts_1 {g : zG} {f : zI} {S : zRf × zI} {e k : Nat} (hk : k ≠ 5) : (lparts g f S e).2 9 k = S.2 9 k := by
  have hq : ∀ (S : zRf × zI) (o : Option Nat) (x : Int32), (lplan S o x).2 9 k = S.2 9 k := fun S o x => by
    unfold lplan
    split
    · show zup (zup S.2 12 (tn (S.2 9 5)) x) 9 5 (S.2 9 5 + 1) 9 k = _
      rw [zup_ne _ _ _ _ (by omega), zup_ne _ _ _ _ (by omega)]
    · rfl
  have hp : ∀ (S : zRf × zI) (o : Option Nat), (lpart S o).2 9 k = S.2 9 k := fun S o => by
    unfold lpart
    split
    · rfl
    · exact hq _ _ _
  have hc : ∀ (S : zRf × zI) (x : Int32), (lplanC g f S e x).2 9 k = S.2 9 k := fun S x => by
    unfold lplanC
    split
    · rfl
    · rw [hq, hq, hq]
  have hl : ∀ (j : Nat) (S : zRf × zI), (lplanL g f e j S).2 9 k = S.2 9 k := by
    intro j
    induction j with
    | zero => intro S; rfl
    | succ j ih => intro S; show (lplanL g f e j (lplanC g f S e (nI j))).2 9 k = _; rw [ih, hc]
  have hcs : (lclauses g f S e).2 9 k = S.2 9 k := by
    unfold lclauses
    split
    · rfl
    · rw [hl, hq]
  show (lpart (lpart (lpart (lclauses g f S e) _) _) _).2 9 k = _
  rw [hp, hp, hp, hcs]
/-- what is planned last is written -/
def lstep (g : zG) (f : zI) (S : zRf × zI) : zRf × zI := match S.1 11 (tn (S.2 9 5) - 1) with
  | none => (S.1, lput (zup S.2 9 5 (S.2 9 5 - 1)) (S.2 12 (tn (S.2 9 5) - 1)))
  | some e => lparts g f (S.1, lhead f (zup S.2 9 5 (S.2 9 5 - 1)) e) e
theorem lstep_n {g : zG} {f : zI} {S : zRf × zI} (h : S.1 11 (tn (S.2 9 5) - 1) = none) : lstep g f S = (S.1, lput (zup S.2 9 5 (S.2 9 5 - 1)) (S.2 12 (tn (S.2 9 5) - 1))) := by unfold lstep; rw [h]
theorem lstep_s {g : zG} {f : zI} {S : zRf × zI} {e : Nat} (h : S.1 11 (tn (S.2 9 5) - 1) = some e) : lstep g f S = lparts g f (S.1, lhead f (zup S.2 9 5 (S.2 9 5 - 1)) e) e := by unfold lstep; rw [h]
def lrun (g : zG) (f : zI) : Nat → zRf × zI → zRf × zI
  | 0, S => S
  | j + 1, S => if 0 < S.2 9 5 then lrun g f j (lstep g f S) else S
theorem CF.lst {c : Nat} {g : zG} {f : zI} {S : zRf × zI} (h : CF c S.1) : CF c (lstep g f S).1 := by
  unfold lstep
  split
  · exact h
  · exact CF.parts (S := (S.1, _)) h
theorem CF.lru {c : Nat} {g : zG} {f : zI} : ∀ (j : Nat) (S : zRf × zI), CF c S.1 → CF c (lrun g f j S).1 := by
  intro j
  induction j with
  | zero => intro S h; exact h
  | succ j ih =>
    intro S h
    unfold lrun
    split
    · exact ih _ h.lst
    · exact h
theorem lsub_iv {x : Int32} (h : iv 241 x) (k : 0 < x) : x - 1 = nI (tn x - 1) ∧ tn x - 1 < 240 ∧ iv 241 (x - 1) := by
  have h1 := h.1
  have hp : 0 < tn x := by
    rw [h.2] at k
    exact (nI_ltI (a := 0) (by decide) (by omega)).mp k
  have e : x - 1 = nI (tn x - 1) := ixS (a := tn x) (b := 1) h.2 rfl hp
  exact ⟨e, by omega, by rw [e]; exact iv_nI (by omega) (by decide)⟩
set_option maxRecDepth 20000 in
theorem Bl_X4_list {l : Launch} {d : Nat} {D : zD} {b0 : Nat} {g : zG} {f : zI} {c : Nat} (hW : CW b0 g c) (hE : EO b0 g c) (hd : 3 ≤ d) (Q : Nat → Nat → zKT → Prop) (v1 : Value) (S1 : zRf × zI) (he : ¬ 0 < S1.2 9 5) : ∀ (j k : Nat) (R : zRf) (C : zI) (cs ns : Nat) (y : Option Value), k + j < 1000000 → lrun g f j (R, C) = S1 → CF c R → zOK b0 zNo (gv c g R) → iv 241 (C 9 5) → iv 241 (C 9 1) → (∀ (x2 : Int32) (y' : Option Value) (cs' ns' : Nat), cs' ≤ cs → ns' ≤ ns → zOK b0 zNo (gv c g S1.1) → iv 241 (S1.2 9 1) → zS l d D b0 mX4_list cs' ns' 92 [some (.ref (c + 9)), some v1, some (.int x2), y'] [] (gv c g S1.1) (cv c f S1.2) Q) → zS l d D b0 mX4_list cs ns 23 [some (.ref (c + 9)), some v1, some (.int (nI k)), y] [] (gv c g R) (cv c f C) Q := by
  intro j
  induction j with
  | zero =>
    intro k R C cs ns y hk hq hF hw hl hl1 kk
    subst hq
    show zS _ _ _ _ _ _ _ 23 _ _ _ _ _
    refine z_iload2 dX4_list_23 ?_
    refine z_ldc dX4_list_24 zk_RX4_39 ?_
    refine z_icmp_ge (tgt := 92) dX4_list_26 (by decide) (fun c26 => ?_) (fun c26 => ?_)
    · exact kk _ _ _ _ (Nat.le_refl _) (Nat.le_refl _) hw hl1
    · show zS _ _ _ _ _ _ _ 29 _ _ _ _ _
      refine z_aload0 dX4_list_29 ?_
      refine zc_getI (j := 9) hW fl_RX4_28 rfl dX4_list_30 ?_
      refine z_if_le (tgt := 92) dX4_list_33 (by decide) (fun c33 => ?_) (fun c33 => ?_)
      · exact kk _ _ _ _ (Nat.le_refl _) (Nat.le_refl _) hw hl1
      · exact absurd c33 he
  | succ j ih =>
    intro k R C cs ns y hk hq hF hw hl hl1 kk
    show zS _ _ _ _ _ _ _ 23 _ _ _ _ _
    refine z_iload2 dX4_list_23 ?_
    refine z_ldc dX4_list_24 zk_RX4_39 ?_
    refine z_icmp_ge (tgt := 92) dX4_list_26 (by decide) (fun c26 => ?_) (fun c26 => ?_)
    · exact absurd (nI_lt (b := 1000000) (by omega) (by decide)) c26
    · show zS _ _ _ _ _ _ _ 29 _ _ _ _ _
      refine z_aload0 dX4_list_29 ?_
      refine zc_getI (j := 9) hW fl_RX4_28 rfl dX4_list_30 ?_
      refine z_if_le (tgt := 92) dX4_list_33 (by decide) (fun c33 => ?_) (fun c33 => ?_)
      · (have e0 : lrun g f (j + 1) (R, C) = (R, C) := if_neg c33; rw [e0] at hq; subst hq; exact kk _ _ _ _ (Nat.le_refl _) (Nat.le_refl _) hw hl1)
      · show zS _ _ _ _ _ _ _ 36 _ _ _ _ _
        have hpos : 0 < C 9 5 := c33
        obtain ⟨hu1, hu2, hu3⟩ := lsub_iv hl hpos
        refine z_aload0 dX4_list_36 ?_
        refine z_dup dX4_list_37 ?_
        refine zc_getI (j := 9) hW fl_RX4_28 rfl dX4_list_38 ?_
        refine z_iconst (v := 1) dX4_list_41 (by decide) ?_
        refine z_isub dX4_list_42 ?_
        refine zc_putI (j := 9) hW fl_RX4_28 rfl dX4_list_43 ?_
        refine z_aload0 dX4_list_46 ?_
        refine zc_getF (j := 9) hW fl_RX4_17 rfl (by decide) (hF _ (List.mem_of_getElem? (i := 13) rfl)) dX4_list_47 ?_
        refine z_aload0 dX4_list_50 ?_
        refine zc_getI (j := 9) hW fl_RX4_28 rfl dX4_list_51 ?_
        refine zc_ald (j := 11) (t' := 1) hw hW rfl (by decide) (by decide) hu1 (by omega) (fun _ => rfl) (by decide) dX4_list_54 (fun i1 => ?_)
        show zS _ _ _ _ _ _ _ 55 _ _ _ _ _
        refine z_astore3 dX4_list_55 ?_
        refine z_aload3 dX4_list_56 ?_
        refine z_ifnonnull (tgt := 76) dX4_list_57 (by decide) (fun a57 c57 => ?_) (fun c57 => ?_)
        · show zS _ _ _ _ _ _ _ 76 _ _ _ _ _
          rw [c57]
          have hb0 : zIn b0 g a57 1 := i1 _ c57
          refine z_aload0 dX4_list_76 ?_
          refine z_aload3 dX4_list_77 ?_
          refine z_callV zmd_X4_putHead rfl (by decide) zl_RX4_44 zin_X4_putHead zsel_X4_putHead (B_X4_putHead (d := d - 1) hW hF hw _ hb0 hl1 (by omega)) (hW.i 9 rfl) rfl rfl (by omega) rfl dX4_list_78 (fun r2 g2 f2 mc2 ms2 q2 => ?_)
          obtain ⟨rfl, rfl, rfl, hc2, hs2, w2, k2, b2⟩ := q2
          refine z_aload0 dX4_list_81 ?_
          refine z_aload3 dX4_list_82 ?_
          refine z_callV zmd_X4_planParts rfl (by decide) zl_RX4_48 zin_X4_planParts zsel_X4_planParts (B_X4_planParts (d := d - 1) b2 hF w2 _ (hb0.le k2) (hE _ (hb0.le k2)) (by rw [lhead_5]; exact hu3) (by omega)) (b2.i 9 rfl) rfl rfl (by omega) rfl dX4_list_83 (fun r3 g3 f3 mc3 ms3 q3 => ?_)
          obtain ⟨rfl, rfl, rfl, hc3, hs3, w3, k3, b3⟩ := q3
          refine z_iinc2 (y := 1) dX4_list_86 (by decide) ?_
          refine z_goto (tgt := 23) dX4_list_89 (by decide) ?_
          rw [nI_1]
          exact ih (k + 1) _ _ _ _ _ (by omega) ((congrArg (lrun g f j) (lstep_s (S := (R, C)) c57).symm).trans ((if_pos hpos).symm.trans hq)) (hF.parts) w3 (lparts_iv (S := (R, _)) (by show iv 241 (lhead f _ _ 9 5); rw [lhead_5]; exact hu3)) (by rw [lparts_1 (by decide)]; exact lhead_iv hl1) (fun x2 y2 cs1 ns1 h1 h2 => kk x2 y2 cs1 ns1 (by omega) (by omega))
        · show zS _ _ _ _ _ _ _ 60 _ _ _ _ _
          refine z_aload0 dX4_list_60 ?_
          refine z_aload0 dX4_list_61 ?_
          refine zc_getF (j := 9) hW fl_RX4_21 rfl (by decide) (hF _ (List.mem_of_getElem? (i := 14) rfl)) dX4_list_62 ?_
          refine z_aload0 dX4_list_65 ?_
          refine zc_getI (j := 9) hW fl_RX4_28 rfl dX4_list_66 ?_
          refine zc_ld (j := 12) hW rfl (by decide) hu1 (by omega) dX4_list_69 ?_
          refine z_callV zmd_X4_put rfl (by decide) zl_RX4_40 zin_X4_put zsel_X4_put (B_X4_put (d := d - 1) hW hF hw _ hl1) (hW.i 9 rfl) rfl rfl (by omega) rfl dX4_list_70 (fun r4 g4 f4 mc4 ms4 q4 => ?_)
          obtain ⟨rfl, rfl, rfl, hc4, hs4, w4, k4, b4⟩ := q4
          refine z_goto (tgt := 86) dX4_list_73 (by decide) ?_
          show zS _ _ _ _ _ _ _ 86 _ _ _ _ _
          refine z_iinc2 (y := 1) dX4_list_86 (by decide) ?_
          refine z_goto (tgt := 23) dX4_list_89 (by decide) ?_
          rw [nI_1]
          exact ih (k + 1) _ _ _ _ _ (by omega) ((congrArg (lrun g f j) (lstep_n (S := (R, C)) c57).symm).trans ((if_pos hpos).symm.trans hq)) hF w4 (by rw [lput_5]; exact hu3) (lput_iv hl1) (fun x2 y2 cs1 ns1 h1 h2 => kk x2 y2 cs1 ns1 (by omega) (by omega))
theorem cv_rowD {c : Nat} {f C : zI} {a : Nat} {r : Nat → Int32} (h : ¬ (c ≤ a ∧ a < c + 27)) : zu1 (cv c f C) a r = cv c (zu1 f a r) C := by
  funext b
  unfold zu1 cv
  by_cases h1 : b = a
  · subst h1; simp [h]
  · simp [h1]
theorem iv0 : iv 241 (0 : Int32) := by
  have h := iv_nI (N := 241) (n := 0) (by decide) (by decide)
  rw [nI_0] at h
  exact h
theorem lplan_1 {S : zRf × zI} {o : Option Nat} {x : Int32} {k : Nat} (hk : k ≠ 5) : (lplan S o x).2 9 k = S.2 9 k := by
  unfold lplan
  split
  · show zup (zup S.2 12 (tn (S.2 9 5)) x) 9 5 (S.2 9 5 + 1) 9 k = _
    rw [zup_ne _ _ _ _ (by omega), zup_ne _ _ _ _ (by omega)]
  · rfl
theorem B_J7_copyOf {l : Launch} {d : Nat} {D : zD} {b0 : Nat} {g : zG} {f C : zI} {R : zRf} {c : Nat} (hW : CW b0 g c) (hF : CF c R) (hw : zOK b0 zNo (gv c g R)) (n : Nat) (hn : n < 240) (hd : 1 ≤ d) : zM l d D b0 mJ7_copyOf_59c91 [.ref (c + 10), .int (nI n)] (gv c g R) (cv c f C) (zCy b0 zNo c g (some (.ref g.1)) (znG g 13 n) R (zu1 (znI g f) g.1 (fun k => if k < n then C 10 k else 0)) C 1 n) := by
  refine (K_J7_copyOf (g := gv c g R) (f := cv c f C) (Nat.le_trans hW.1 (by have := hW.2.1; show c ≤ g.1; omega)) (c + 10) n 240 (hW.i 10 rfl).gv (hW.l 10 rfl (by decide)) hn (by decide) hd).mono (fun r g' f' mc ms h => ?_)
  obtain ⟨rfl, rfl, rfl, h1, h2⟩ := h
  refine ⟨rfl, gv_new hW.2.1, ?_, h1, h2, ?_, zLe.new _ _ _, hW.le (zLe.new _ _ _)⟩
  · unfold kcopyF
    rw [show (gv c g R).1 = g.1 from rfl]
    rw [show znI (gv c g R) (cv c f C) = cv c (znI g f) C from cv_new hW.2.1, cv_ai (by decide)]
    exact cv_rowD hW.newout
  · have q := hw.new (t := 13) (n := n) (by decide)
    rw [gv_new hW.2.1] at q
    exact q
/-- a main expression is written: what the lister's rows are then -/
def llini (C : zI) : zI := zup (zup (zup C 9 1 0) 9 5 0) 9 2 0
def llist (g : zG) (R : zRf) (f C : zI) (e j : Nat) : zRf × zI := lrun g f j (lplan (R, llini C) (some e) 0)
def llistN (g : zG) (R : zRf) (f C : zI) (e j : Nat) : Nat := tn ((llist g R f C e j).2 9 1)
def llistV (g : zG) (R : zRf) (f C : zI) (e j : Nat) : Prop := j < 1000000 ∧ ¬ 0 < (llist g R f C e j).2 9 5 ∧ llistN g R f C e j < 240
set_option maxRecDepth 20000 in
set_option maxHeartbeats 400000 in
theorem B_X4_list {l : Launch} {d : Nat} {D : zD} {b0 : Nat} {g : zG} {f C : zI} {R : zRf} {c : Nat} (hW : CW b0 g c) (hF : CF c R) (hw : zOK b0 zNo (gv c g R)) (e j : Nat) (hi : zIn b0 g e 1) (hE : EO b0 g c) (hV : llistV g R f C e j) (hd : 3 ≤ d) : zM l d D b0 mX4_list [.ref (c + 9), .ref e] (gv c g R) (cv c f C) (zCy b0 zNo c g (some (.ref g.1)) (znG g 13 (llistN g R f C e j)) (llist g R f C e j).1 (zu1 (znI g f) g.1 (fun k => if k < llistN g R f C e j then (llist g R f C e j).2 10 k else 0)) (llist g R f C e j).2 1 (llistN g R f C e j)) := by
  refine zM.start zmd_X4_list (Nat.le_of_ble_eq_true rfl) ⟨rfl, rfl, trivial⟩ [some (.ref (c + 9)), some (.ref e), none, none] rfl ?_
  refine z_aload0 dX4_list_0 ?_
  refine z_iconst (v := 0) dX4_list_1 (by decide) ?_
  refine zc_putI (j := 9) hW fl_RX4_24 rfl dX4_list_2 ?_
  refine z_aload0 dX4_list_5 ?_
  refine z_iconst (v := 0) dX4_list_6 (by decide) ?_
  refine zc_putI (j := 9) hW fl_RX4_28 rfl dX4_list_7 ?_
  refine z_aload0 dX4_list_10 ?_
  refine z_iconst (v := 0) dX4_list_11 (by decide) ?_
  refine zc_putI (j := 9) hW fl_RX4_31 rfl dX4_list_12 ?_
  refine z_aload0 dX4_list_15 ?_
  refine z_aload1 dX4_list_16 ?_
  show zS _ _ _ _ _ _ _ 17 _ _ _ _ _
  refine z_iconst (v := 0) dX4_list_17 (by decide) ?_
  refine z_callV zmd_X4_plan rfl (by decide) zl_RX4_35 zin_X4_plan zsel_X4_plan (B_X4_plan (d := d - 1) hW hF hw (some _) _ (fun b hb => by cases hb; exact hi) iv0) (hW.i 9 rfl) rfl rfl (by omega) rfl dX4_list_18 (fun r1 g1 f1 mc1 ms1 q1 => ?_)
  obtain ⟨rfl, rfl, rfl, hc1, hs1, w1, k1, b1⟩ := q1
  refine z_iconst (v := 0) dX4_list_21 (by decide) ?_
  refine z_istore2 dX4_list_22 ?_
  have hbb := b1
  refine Bl_X4_list hW hE hd _ (.ref e) (llist g R f C e j) hV.2.1 j 0 _ _ _ _ none (by have := hV.1; omega) rfl (hF.plan) w1 (lplan_iv (S := (R, llini C)) iv0) (by show iv 241 ((lplan (R, llini C) (some e) 0).2 9 1); rw [lplan_1 (by decide)]; exact iv0) (fun x2 y2 cs1 ns1 h1 h2 hw2 hl1 => ?_)
  show zS _ _ _ _ _ _ _ 92 _ _ _ _ _
  refine z_aload0 dX4_list_92 ?_
  refine zc_getF (j := 9) hW fl_RX4_11 rfl (by decide) ((CF.lru (f := f) j _ (CF.plan (S := (R, llini C)) hF)) _ (List.mem_of_getElem? (i := 12) rfl)) dX4_list_93 ?_
  refine z_aload0 dX4_list_96 ?_
  refine zc_getI (j := 9) hW fl_RX4_24 rfl dX4_list_97 ?_
  have hcp : True := trivial
  rw [hl1.2]
  refine z_callS zmd_J7_copyOf_59c91 zl_RX4_51 zst_J7_copyOf_59c91 (B_J7_copyOf (d := d - 1) hW (CF.lru (f := f) j _ (CF.plan (S := (R, llini C)) hF)) hw2 _ hV.2.2 (by omega)) rfl rfl (by omega) rfl dX4_list_100 (fun r1 g1 f1 mc1 ms1 q1 => ?_)
  obtain ⟨rfl, rfl, rfl, hc1, hs1, w1, k1, b1⟩ := q1
  refine z_aret dX4_list_103 rfl ?_ (Or.inr ⟨_, rfl⟩)
  exact ⟨rfl, rfl, rfl, by omega, by omega, w1, k1, b1⟩
