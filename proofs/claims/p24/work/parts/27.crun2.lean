/-! The class's searches over the block. -/
section ZE2
variable {l : Launch} {d : Nat} {D : zD} {b0 : Nat} {mi : zMI} {cs ns pc : Nat} {L : List (Option Value)} {st rest : List Value} {g : zG} {f C : zI} {R : zRf} {c : Nat} {Q : Nat → Nat → zKT → Prop} {X : Nat → Prop}
theorem zd_getFr {idx ci k a t' : Nat} {ty : FieldType} {fin : Bool} (hw : zOK b0 X (gv c g R)) (hW : CW b0 g c) (hf : zFl mi.1.cls idx ci k ty fin t') (ha : zIn b0 g a ci) (ho : ∀ q ∈ bT, ci ≠ q.1) (hx : ¬ X a) (hq : (ci, k, none) ∈ zSh) (h9 : t' ≠ 99) (hd : decode mi.2.1 pc = .ok (.getfield idx, 3)) (kk : g.2.2.2 a k = some (pA g a k) → zIn b0 g (pA g a k) t' → zS l d D b0 mi cs ns (pc + 3) L (.ref (pA g a k) :: st) (gv c g R) (cv c f C) Q) : zS l d D b0 mi cs ns pc L (.ref a :: st) (gv c g R) (cv c f C) Q := by
  obtain ⟨h1, h2⟩ := hw.shr ha.gv hx hq hf.t h9
  have e : pA (gv c g R) a k = pA g a k := by unfold pA; rw [gv_out (hW.out ha ho)]
  rw [e, gv_out (hW.out ha ho)] at h1
  rw [e] at h2
  exact zd_getS hw hW hf ha ho h9 h1 hd (fun _ => kk h1 h2)
end ZE2
/-- the place of the frame that handles x, from place k - 1 down, with m masks -/
def bphA (g : zG) (f : zI) (r : Nat → Option Nat) (x : Int32) : Nat → Int32 → Int32
  | 0, _ => -1
  | k + 1, m => if f ((r k).getD 0) 0 = 8 ∧ f (pA g ((r k).getD 0) 1) 1 = x then bphA g f r x k (m + 1)
      else if f ((r k).getD 0) 0 = 12 ∧ ¬ bclause g (pA g ((r k).getD 0) 1) x = none then (if m = 0 then nI k else bphA g f r x k (m + -1))
      else bphA g f r x k m
def bphV (g : zG) (f : zI) (c : Nat) (r : Nat → Option Nat) (n : Nat) : Prop := ∀ k, k < n → r k = some ((r k).getD 0) ∧ (f ((r k).getD 0) 0 = 8 ∨ f ((r k).getD 0) 0 = 12 → g.2.2.2 ((r k).getD 0) 1 = some (pA g ((r k).getD 0) 1) ∧ eOK g c (pA g ((r k).getD 0) 1))
set_option maxRecDepth 20000 in
theorem Bl_X10_placeOfHandler {l : Launch} {d : Nat} {D : zD} {b0 : Nat} {g : zG} {f C : zI} {R : zRf} {c : Nat} (hW : CW b0 g c) (hF : CF c R) (hw : zOK b0 zNo (gv c g R)) (x : Int32) (hd : 1 ≤ d) : ∀ (k : Nat) (m : Int32) (y : Option Value), k ≤ 100 → bphV g f c (R 20) k → zS l d D b0 mX10_placeOfHandler 0 0 9 [some (.ref (c + 15)), some (.int x), some (.int m), some (.int (nI k - 1)), y] [] (gv c g R) (cv c f C) (zq D b0 (zEx (some (.int (bphA g f (R 20) x k m))) (gv c g R) (cv c f C))) := by
  intro k
  induction k with
  | zero =>
    intro m y hk hV
    refine z_iload3 dX10_placeOfHandler_9 ?_
    refine z_if_lt (tgt := 86) dX10_placeOfHandler_10 (by decide) (fun c10 => ?_) (fun c10 => absurd (by decide : (nI 0 - 1 : Int32) < 0) c10)
    refine z_iconst (v := (-1)) dX10_placeOfHandler_86 (by decide) ?_
    refine z_iret dX10_placeOfHandler_87 rfl ?_
    exact ⟨rfl, rfl, rfl, rfl, rfl⟩
  | succ k ih =>
    intro m y hk hV
    have hk1 : k < k + 1 := Nat.lt_succ_self k
    rw [show (nI (k + 1) - 1 : Int32) = nI k from nI_pred k]
    refine z_iload3 dX10_placeOfHandler_9 ?_
    refine z_if_lt (tgt := 86) dX10_placeOfHandler_10 (by decide) (fun c10 => absurd c10 (nI_pos (by omega))) (fun c10 => ?_)
    show zS _ _ _ _ _ _ _ 13 _ _ _ _ _
    refine z_aload0 dX10_placeOfHandler_13 ?_
    refine zc_getF (j := 19) hW fl_RX10_11 rfl (by decide) (hF _ (List.mem_of_getElem? (i := 24) rfl)) dX10_placeOfHandler_14 ?_
    refine z_iload3 dX10_placeOfHandler_17 ?_
    refine zc_alds (j := 20) (t' := 2) hw hW rfl (by decide) (by decide) (rfl : nI k = nI k) (by omega) (fun _ => rfl) (by decide) (hV k hk1).1 dX10_placeOfHandler_18 (fun i1 => ?_)
    refine z_astore4 dX10_placeOfHandler_19 ?_
    refine z_aload4 dX10_placeOfHandler_21 ?_
    refine zd_getI hW fl_RX10_30 i1 (by decide) dX10_placeOfHandler_23 ?_
    refine z_bipush (v := 8) dX10_placeOfHandler_26 (by decide) ?_
    refine z_icmp_ne (tgt := 49) dX10_placeOfHandler_28 (by decide) (fun c28 => ?_) (fun c28 => ?_)
    · show zS _ _ _ _ _ _ _ 49 _ _ _ _ _
      have hno8 : ¬ (f ((R 20 k).getD 0) 0 = 8 ∧ f (pA g ((R 20 k).getD 0) 1) 1 = x) := by first | exact fun q => absurd q.1 c28 | exact fun q => absurd q.2 c40
      refine z_aload4 dX10_placeOfHandler_49 ?_
      refine zd_getI hW fl_RX10_30 i1 (by decide) dX10_placeOfHandler_51 ?_
      refine z_bipush (v := 12) dX10_placeOfHandler_54 (by decide) ?_
      refine z_icmp_ne (tgt := 80) dX10_placeOfHandler_56 (by decide) (fun c56 => ?_) (fun c56 => ?_)
      · show zS _ _ _ _ _ _ _ 80 _ _ _ _ _
        refine z_iinc3 (y := (-1)) dX10_placeOfHandler_80 (by decide) ?_
        refine z_goto (tgt := 9) dX10_placeOfHandler_83 (by decide) ?_
        rw [show (nI k + -1 : Int32) = nI k - 1 from by rw [Int32.sub_eq_add_neg]]
        rw [show bphA g f (R 20) x (k + 1) m = _ from (if_neg hno8).trans (if_neg (fun q => absurd q.1 c56))]
        exact ih _ _ (by omega) (fun q hq => hV q (by omega))
      · show zS _ _ _ _ _ _ _ 59 _ _ _ _ _
        refine z_aload4 dX10_placeOfHandler_59 ?_
        refine zd_getS hw hW fl_RX10_33 i1 (by decide) (by decide) ((hV k hk1).2 (Or.inr c56)).1 dX10_placeOfHandler_61 (fun i2 => ?_)
        refine z_iload1 dX10_placeOfHandler_64 ?_
        refine z_callV zmd_X1_clause rfl (by decide) zl_RX10_42 zin_X1_clause zsel_X1_clause (B_X1_clause (d := d - 1) hW hF hw _ _ i2 ((hV k hk1).2 (Or.inr c56)).2) i2 rfl rfl (by omega) rfl dX10_placeOfHandler_65 (fun r3 g3 f3 mc3 ms3 q3 => ?_)
        obtain ⟨rfl, rfl, rfl, rfl, rfl⟩ := q3
        refine z_ifnull (tgt := 80) dX10_placeOfHandler_68 (by decide) (fun c68 => ?_) (fun a68 c68 => ?_)
        · show zS _ _ _ _ _ _ _ 80 _ _ _ _ _
          refine z_iinc3 (y := (-1)) dX10_placeOfHandler_80 (by decide) ?_
          refine z_goto (tgt := 9) dX10_placeOfHandler_83 (by decide) ?_
          rw [show (nI k + -1 : Int32) = nI k - 1 from by rw [Int32.sub_eq_add_neg]]
          rw [show bphA g f (R 20) x (k + 1) m = _ from (if_neg hno8).trans (if_neg (fun q => absurd c68 q.2))]
          exact ih _ _ (by omega) (fun q hq => hV q (by omega))
        · show zS _ _ _ _ _ _ _ 71 _ _ _ _ _
          refine z_iload2 dX10_placeOfHandler_71 ?_
          refine z_if_ne (tgt := 77) dX10_placeOfHandler_72 (by decide) (fun c72 => ?_) (fun c72 => ?_)
          · show zS _ _ _ _ _ _ _ 77 _ _ _ _ _
            refine z_iinc2 (y := (-1)) dX10_placeOfHandler_77 (by decide) ?_
            refine z_iinc3 (y := (-1)) dX10_placeOfHandler_80 (by decide) ?_
            refine z_goto (tgt := 9) dX10_placeOfHandler_83 (by decide) ?_
            rw [show (nI k + -1 : Int32) = nI k - 1 from by rw [Int32.sub_eq_add_neg]]
            rw [show bphA g f (R 20) x (k + 1) m = _ from (if_neg hno8).trans ((if_pos ⟨c56, (by rw [c68]; exact Option.some_ne_none _)⟩).trans (if_neg c72))]
            exact ih _ _ (by omega) (fun q hq => hV q (by omega))
          · show zS _ _ _ _ _ _ _ 75 _ _ _ _ _
            refine z_iload3 dX10_placeOfHandler_75 ?_
            refine z_iret dX10_placeOfHandler_76 rfl ?_
            rw [show bphA g f (R 20) x (k + 1) m = nI k from (if_neg hno8).trans ((if_pos ⟨c56, (by rw [c68]; exact Option.some_ne_none _)⟩).trans (if_pos c72))]
            exact ⟨rfl, rfl, rfl, rfl, rfl⟩
    · show zS _ _ _ _ _ _ _ 31 _ _ _ _ _
      refine z_aload4 dX10_placeOfHandler_31 ?_
      refine zd_getS hw hW fl_RX10_33 i1 (by decide) (by decide) ((hV k hk1).2 (Or.inl c28)).1 dX10_placeOfHandler_33 (fun i4 => ?_)
      refine zd_getI hW fl_RX10_37 i4 (by decide) dX10_placeOfHandler_36 ?_
      refine z_iload1 dX10_placeOfHandler_39 ?_
      refine z_icmp_ne (tgt := 49) dX10_placeOfHandler_40 (by decide) (fun c40 => ?_) (fun c40 => ?_)
      · show zS _ _ _ _ _ _ _ 49 _ _ _ _ _
        have hno8 : ¬ (f ((R 20 k).getD 0) 0 = 8 ∧ f (pA g ((R 20 k).getD 0) 1) 1 = x) := by first | exact fun q => absurd q.1 c28 | exact fun q => absurd q.2 c40
        refine z_aload4 dX10_placeOfHandler_49 ?_
        refine zd_getI hW fl_RX10_30 i1 (by decide) dX10_placeOfHandler_51 ?_
        refine z_bipush (v := 12) dX10_placeOfHandler_54 (by decide) ?_
        refine z_icmp_ne (tgt := 80) dX10_placeOfHandler_56 (by decide) (fun c56 => ?_) (fun c56 => ?_)
        · show zS _ _ _ _ _ _ _ 80 _ _ _ _ _
          refine z_iinc3 (y := (-1)) dX10_placeOfHandler_80 (by decide) ?_
          refine z_goto (tgt := 9) dX10_placeOfHandler_83 (by decide) ?_
          rw [show (nI k + -1 : Int32) = nI k - 1 from by rw [Int32.sub_eq_add_neg]]
          rw [show bphA g f (R 20) x (k + 1) m = _ from (if_neg hno8).trans (if_neg (fun q => absurd q.1 c56))]
          exact ih _ _ (by omega) (fun q hq => hV q (by omega))
        · show zS _ _ _ _ _ _ _ 59 _ _ _ _ _
          refine z_aload4 dX10_placeOfHandler_59 ?_
          refine zd_getS hw hW fl_RX10_33 i1 (by decide) (by decide) ((hV k hk1).2 (Or.inr c56)).1 dX10_placeOfHandler_61 (fun i5 => ?_)
          refine z_iload1 dX10_placeOfHandler_64 ?_
          refine z_callV zmd_X1_clause rfl (by decide) zl_RX10_42 zin_X1_clause zsel_X1_clause (B_X1_clause (d := d - 1) hW hF hw _ _ i5 ((hV k hk1).2 (Or.inr c56)).2) i5 rfl rfl (by omega) rfl dX10_placeOfHandler_65 (fun r6 g6 f6 mc6 ms6 q6 => ?_)
          obtain ⟨rfl, rfl, rfl, rfl, rfl⟩ := q6
          refine z_ifnull (tgt := 80) dX10_placeOfHandler_68 (by decide) (fun c68 => ?_) (fun a68 c68 => ?_)
          · show zS _ _ _ _ _ _ _ 80 _ _ _ _ _
            refine z_iinc3 (y := (-1)) dX10_placeOfHandler_80 (by decide) ?_
            refine z_goto (tgt := 9) dX10_placeOfHandler_83 (by decide) ?_
            rw [show (nI k + -1 : Int32) = nI k - 1 from by rw [Int32.sub_eq_add_neg]]
            rw [show bphA g f (R 20) x (k + 1) m = _ from (if_neg hno8).trans (if_neg (fun q => absurd c68 q.2))]
            exact ih _ _ (by omega) (fun q hq => hV q (by omega))
          · show zS _ _ _ _ _ _ _ 71 _ _ _ _ _
            refine z_iload2 dX10_placeOfHandler_71 ?_
            refine z_if_ne (tgt := 77) dX10_placeOfHandler_72 (by decide) (fun c72 => ?_) (fun c72 => ?_)
            · show zS _ _ _ _ _ _ _ 77 _ _ _ _ _
              refine z_iinc2 (y := (-1)) dX10_placeOfHandler_77 (by decide) ?_
              refine z_iinc3 (y := (-1)) dX10_placeOfHandler_80 (by decide) ?_
              refine z_goto (tgt := 9) dX10_placeOfHandler_83 (by decide) ?_
              rw [show (nI k + -1 : Int32) = nI k - 1 from by rw [Int32.sub_eq_add_neg]]
              rw [show bphA g f (R 20) x (k + 1) m = _ from (if_neg hno8).trans ((if_pos ⟨c56, (by rw [c68]; exact Option.some_ne_none _)⟩).trans (if_neg c72))]
              exact ih _ _ (by omega) (fun q hq => hV q (by omega))
            · show zS _ _ _ _ _ _ _ 75 _ _ _ _ _
              refine z_iload3 dX10_placeOfHandler_75 ?_
              refine z_iret dX10_placeOfHandler_76 rfl ?_
              rw [show bphA g f (R 20) x (k + 1) m = nI k from (if_neg hno8).trans ((if_pos ⟨c56, (by rw [c68]; exact Option.some_ne_none _)⟩).trans (if_pos c72))]
              exact ⟨rfl, rfl, rfl, rfl, rfl⟩
      · show zS _ _ _ _ _ _ _ 43 _ _ _ _ _
        refine z_iinc2 (y := 1) dX10_placeOfHandler_43 (by decide) ?_
        refine z_goto (tgt := 80) dX10_placeOfHandler_46 (by decide) ?_
        show zS _ _ _ _ _ _ _ 80 _ _ _ _ _
        refine z_iinc3 (y := (-1)) dX10_placeOfHandler_80 (by decide) ?_
        refine z_goto (tgt := 9) dX10_placeOfHandler_83 (by decide) ?_
        rw [show (nI k + -1 : Int32) = nI k - 1 from by rw [Int32.sub_eq_add_neg]]
        rw [show bphA g f (R 20) x (k + 1) m = _ from if_pos ⟨c28, c40⟩]
        exact ih _ _ (by omega) (fun q hq => hV q (by omega))
set_option maxRecDepth 20000 in
set_option maxHeartbeats 400000 in
theorem B_X10_placeOfHandler {l : Launch} {d : Nat} {D : zD} {b0 : Nat} {g : zG} {f C : zI} {R : zRf} {c : Nat} (hW : CW b0 g c) (hF : CF c R) (hw : zOK b0 zNo (gv c g R)) (x : Int32) (dp : Nat) (hdp : C 19 1 = nI dp) (h100 : dp ≤ 100) (hV : bphV g f c (R 20) dp) (hd : 1 ≤ d) : zM l d D b0 mX10_placeOfHandler [.ref (c + 15), .int x] (gv c g R) (cv c f C) (zEx (some (.int (bphA g f (R 20) x dp 0))) (gv c g R) (cv c f C)) := by
  refine zM.start zmd_X10_placeOfHandler (Nat.le_of_ble_eq_true rfl) ⟨rfl, rfl, trivial⟩ [some (.ref (c + 15)), some (.int x), none, none, none] rfl ?_
  refine z_iconst (v := 0) dX10_placeOfHandler_0 (by decide) ?_
  refine z_istore2 dX10_placeOfHandler_1 ?_
  refine z_aload0 dX10_placeOfHandler_2 ?_
  refine zc_getI (j := 19) hW fl_RX10_17 rfl dX10_placeOfHandler_3 ?_
  rw [hdp]
  refine z_iconst (v := 1) dX10_placeOfHandler_6 (by decide) ?_
  refine z_isub dX10_placeOfHandler_7 ?_
  refine z_istore3 dX10_placeOfHandler_8 ?_
  exact Bl_X10_placeOfHandler hW hF hw x hd dp 0 none h100 hV
/-- a resumption that is not used and was not visited is put on the path -/
def bvis (C : zI) (f : zI) (a : Nat) : Prop := ¬ 0 < buses C f (some a) ∧ C 13 2 < 1000 ∧ kplace (f a 0) ∧ ¬ C 16 (tn (f a 0)) = C 13 4
def bvisC (C : zI) (g : zG) (f : zI) (a : Nat) : zI :=
  let C1 := zup C 16 (tn (f a 0)) (C 13 4)
  let C2 := zup C1 15 (tn (C1 13 2)) (nI (g.2.2.1 (pA g a 1)))
  zup C2 13 2 (C2 13 2 + 1)
def bvisit (C : zI) (R : zRf) (g : zG) (f : zI) (r : Option Nat) : zI × zRf := match r with
  | none => (C, R)
  | some a => if ¬ 0 < buses C f (some a) ∧ C 13 2 < 1000 ∧ (¬ f a 0 < 0 ∧ f a 0 < 1000) ∧ ¬ C 16 (tn (f a 0)) = C 13 4 then (bvisC C g f a, zup R 14 (tn (C 13 2)) (some a)) else (C, R)
theorem bvisit_t {C : zI} {R : zRf} {g : zG} {f : zI} {a : Nat} (h1 : ¬ 0 < buses C f (some a)) (h2 : C 13 2 < 1000) (h3 : kplace (f a 0)) (h4 : ¬ C 16 (tn (f a 0)) = C 13 4) : bvisit C R g f (some a) = (bvisC C g f a, zup R 14 (tn (C 13 2)) (some a)) := if_pos ⟨h1, h2, h3, h4⟩
theorem bvisit_f {C : zI} {R : zRf} {g : zG} {f : zI} {a : Nat} (h : ¬ (¬ 0 < buses C f (some a) ∧ C 13 2 < 1000 ∧ kplace (f a 0) ∧ ¬ C 16 (tn (f a 0)) = C 13 4)) : bvisit C R g f (some a) = (C, R) := if_neg h
set_option maxRecDepth 20000 in
set_option maxHeartbeats 400000 in
theorem B_X5_visit {l : Launch} {d : Nat} {D : zD} {b0 : Nat} {g : zG} {f C : zI} {R : zRf} {c : Nat} (hW : CW b0 g c) (hF : CF c R) (hw : zOK b0 zNo (gv c g R)) (r : Option Nat) (hr : ∀ b, r = some b → zIn b0 g b 7) (hdp : iv 1001 (C 13 2)) (hd : 2 ≤ d) : zM l d D b0 mX5_visit [.ref (c + 22), va_rf r, .ref (c + 17)] (gv c g R) (cv c f C) (zCy b0 zNo c g none g (bvisit C R g f r).2 f (bvisit C R g f r).1 0 0) := by
  have hdp1 := hdp.1
  refine zM.start zmd_X5_visit (Nat.le_of_ble_eq_true rfl) ⟨rfl, zcat_o _, rfl, trivial⟩ [some (.ref (c + 22)), some (va_rf r), some (.ref (c + 17)), none] rfl ?_
  refine z_aload1 dX5_visit_0 ?_
  refine z_ifnull (tgt := 12) dX5_visit_1 (by decide) (fun c1 => ?_) (fun a1 c1 => ?_)
  · show zS _ _ _ _ _ _ _ 12 _ _ _ _ _
    refine z_ret dX5_visit_12 rfl ?_
    subst c1
    exact ⟨rfl, rfl, rfl, by omega, by omega, hw, zLe.rf, hW⟩
  · show zS _ _ _ _ _ _ _ 4 _ _ _ _ _
    subst c1
    have hb := hr _ rfl
    refine z_aload2 dX5_visit_4 ?_
    refine z_aload1 dX5_visit_5 ?_
    refine z_callVi zmd_X3_usesOf rfl (by decide) zl_RX5_58 zin_X3_usesOf zsel_X3_usesOf (B_X3_usesOf (d := d - 1) hW hF hw (some _) (fun b hb => by cases hb; exact hb) (by omega)) (hW.i 21 rfl) rfl rfl (by omega) rfl dX5_visit_6 ?_
    refine z_if_le (tgt := 13) dX5_visit_9 (by decide) (fun c9 => ?_) (fun c9 => ?_)
    · show zS _ _ _ _ _ _ _ 13 _ _ _ _ _
      refine z_aload1 dX5_visit_13 ?_
      refine zd_getI hW fl_RX5_62 hb (by decide) dX5_visit_14 ?_
      refine z_istore3 dX5_visit_17 ?_
      refine z_aload0 dX5_visit_18 ?_
      refine zc_getI (j := 13) hW fl_RX5_28 rfl dX5_visit_19 ?_
      refine z_aload0 dX5_visit_22 ?_
      refine zc_getF (j := 13) hW fl_RX5_11 rfl (by decide) (hF _ (List.mem_of_getElem? (i := 15) rfl)) dX5_visit_23 ?_
      refine zc_len (j := 14) hW rfl (by decide) dX5_visit_26 ?_
      refine z_icmp_ge (tgt := 50) dX5_visit_27 (by decide) (fun c27 => ?_) (fun c27 => ?_)
      · show zS _ _ _ _ _ _ _ 50 _ _ _ _ _
        refine z_ret dX5_visit_50 rfl ?_
        rw [bvisit_f (fun q => absurd q.2.1 c27)]
        exact ⟨rfl, rfl, rfl, by omega, by omega, hw, zLe.rf, hW⟩
      · show zS _ _ _ _ _ _ _ 30 _ _ _ _ _
        have hd2 : tn (C 13 2) < 1000 := by
          have e := c27
          rw [hdp.2] at e
          exact (nI_ltI (b := 1000) (by omega) (by decide)).mp e
        refine z_iload3 dX5_visit_30 ?_
        refine z_callSNi zmd_X3_isPlace (host := "EffectMachine") (by decide) zst_X3_isPlace (K_X3_isPlace (d := d - 1) _) rfl rfl (by omega) rfl dX5_visit_31 ?_
        refine z_if_eq (tgt := 50) dX5_visit_34 (by decide) (fun c34 => ?_) (fun c34 => ?_)
        · show zS _ _ _ _ _ _ _ 50 _ _ _ _ _
          refine z_ret dX5_visit_50 rfl ?_
          rw [bvisit_f (fun q => absurd q.2.2.1 (kplace_f c34))]
          exact ⟨rfl, rfl, rfl, by omega, by omega, hw, zLe.rf, hW⟩
        · show zS _ _ _ _ _ _ _ 37 _ _ _ _ _
          have hpl := kplace_t c34
          have hpi := hpl.iv
          have hpi1 := hpi.1
          refine z_aload0 dX5_visit_37 ?_
          refine zc_getF (j := 13) hW fl_RX5_21 rfl (by decide) (hF _ (List.mem_of_getElem? (i := 17) rfl)) dX5_visit_38 ?_
          refine z_iload3 dX5_visit_41 ?_
          refine zc_ld (j := 16) hW rfl (by decide) hpi.2 (by omega) dX5_visit_42 ?_
          refine z_aload0 dX5_visit_43 ?_
          refine zc_getI (j := 13) hW fl_RX5_24 rfl dX5_visit_44 ?_
          refine z_icmp_ne (tgt := 51) dX5_visit_47 (by decide) (fun c47 => ?_) (fun c47 => ?_)
          · show zS _ _ _ _ _ _ _ 51 _ _ _ _ _
            refine z_aload0 dX5_visit_51 ?_
            refine zc_getF (j := 13) hW fl_RX5_21 rfl (by decide) (hF _ (List.mem_of_getElem? (i := 17) rfl)) dX5_visit_52 ?_
            refine z_iload3 dX5_visit_55 ?_
            refine z_aload0 dX5_visit_56 ?_
            refine zc_getI (j := 13) hW fl_RX5_24 rfl dX5_visit_57 ?_
            refine zc_st (j := 16) hW rfl (by decide) hpi.2 (by omega) dX5_visit_60 ?_
            refine z_aload0 dX5_visit_61 ?_
            refine zc_getF (j := 13) hW fl_RX5_11 rfl (by decide) (hF _ (List.mem_of_getElem? (i := 15) rfl)) dX5_visit_62 ?_
            refine z_aload0 dX5_visit_65 ?_
            refine zc_getI (j := 13) hW fl_RX5_28 rfl dX5_visit_66 ?_
            refine z_aload1 dX5_visit_69 ?_
            show zS _ _ _ _ _ _ _ 70 _ _ _ _ _
            refine zc_asts (j := 14) (t' := 7) hw hW rfl (by decide) (by decide) hdp.2 (by omega) (fun _ => rfl) hb dX5_visit_70 (fun w3 => ?_)
            refine z_aload0 dX5_visit_71 ?_
            refine zc_getF (j := 13) hW fl_RX5_17 rfl (by decide) (hF _ (List.mem_of_getElem? (i := 16) rfl)) dX5_visit_72 ?_
            refine z_aload0 dX5_visit_75 ?_
            refine zc_getI (j := 13) hW fl_RX5_28 rfl dX5_visit_76 ?_
            refine z_aload1 dX5_visit_79 ?_
            refine zd_getFr w3 hW fl_RX5_36 hb (by decide) (fun h => h) (by decide) (by decide) dX5_visit_80 (fun e4 i4 => ?_)
            refine z_alenN i4 (by decide) rfl dX5_visit_83 ?_
            refine zc_st (j := 15) hW rfl (by decide) hdp.2 (by omega) dX5_visit_84 ?_
            refine z_aload0 dX5_visit_85 ?_
            refine z_dup dX5_visit_86 ?_
            refine zc_getI (j := 13) hW fl_RX5_28 rfl dX5_visit_87 ?_
            show zS _ _ _ _ _ _ _ 90 _ _ _ _ _
            refine z_iconst (v := 1) dX5_visit_90 (by decide) ?_
            refine z_iadd dX5_visit_91 ?_
            refine zc_putI (j := 13) hW fl_RX5_28 rfl dX5_visit_92 ?_
            refine z_ret dX5_visit_95 rfl ?_
            rw [bvisit_t c9 c27 (kplace_t c34) c47]
            exact ⟨rfl, rfl, rfl, by omega, by omega, w3, zLe.rf, hW⟩
          · show zS _ _ _ _ _ _ _ 50 _ _ _ _ _
            refine z_ret dX5_visit_50 rfl ?_
            rw [bvisit_f (fun q => absurd c47 q.2.2.2)]
            exact ⟨rfl, rfl, rfl, by omega, by omega, hw, zLe.rf, hW⟩
    · show zS _ _ _ _ _ _ _ 12 _ _ _ _ _
      refine z_ret dX5_visit_12 rfl ?_
      rw [bvisit_f (fun q => absurd c9 q.1)]
      exact ⟨rfl, rfl, rfl, by omega, by omega, hw, zLe.rf, hW⟩
