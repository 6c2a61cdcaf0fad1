/-! The class's search for a pending finalizer, and the small methods of a run. -/
def bfsB (C : zI) : zI := zup C 15 (tn (C 13 2) - 1) (C 15 (tn (C 13 2) - 1) - 1)
/-- the resumption on top of the path, its frames, the one to look at -/
def bfsP (C : zI) (R : zRf) : Nat := (R 14 (tn (C 13 2) - 1)).getD 0
def bfsN (C : zI) (R : zRf) (g : zG) : Nat := (g.2.2.2 (pA g (bfsP C R) 1) (tn (bfsB C 15 (tn (C 13 2) - 1)))).getD 0
def bfs (g : zG) (f : zI) : Nat → zI → zRf → Option Nat × zI × zRf
  | 0, C, R => (none, C, R)
  | j + 1, C, R => if ¬ 0 < C 13 2 then (none, C, R) else
      if C 15 (tn (C 13 2) - 1) = 0 then bfs g f j (zup C 13 2 (C 13 2 - 1)) R
      else if f (bfsN C R g) 0 = 9 ∧ bexecd (bfsB C) (f (bfsN C R g) 3) = 0 then (some (bfsN C R g), bfsB C, R)
      else if f (bfsN C R g) 0 = 14 then bfs g f j (bvisit (bfsB C) R g f (g.2.2.2 (bfsN C R g) 4)).1 (bvisit (bfsB C) R g f (g.2.2.2 (bfsN C R g) 4)).2
      else bfs g f j (bfsB C) R
def bfsV (g : zG) (f : zI) (c : Nat) : Nat → zI → zRf → Prop
  | 0, _, _ => False
  | j + 1, C, R => iv 1001 (C 13 2) ∧ (0 < tn (C 13 2) → (C 15 (tn (C 13 2) - 1) = 0 → bfsV g f c j (zup C 13 2 (C 13 2 - 1)) R) ∧ (¬ C 15 (tn (C 13 2) - 1) = 0 →
      R 14 (tn (C 13 2) - 1) = some (bfsP C R) ∧ ¬ (c ≤ pA g (bfsP C R) 1 ∧ pA g (bfsP C R) 1 < c + 27) ∧ iv (g.2.2.1 (pA g (bfsP C R) 1)) (bfsB C 15 (tn (C 13 2) - 1)) ∧ g.2.2.1 (pA g (bfsP C R) 1) ≤ 100 ∧
      g.2.2.2 (pA g (bfsP C R) 1) (tn (bfsB C 15 (tn (C 13 2) - 1))) = some (bfsN C R g) ∧
      (¬ (f (bfsN C R g) 0 = 9 ∧ bexecd (bfsB C) (f (bfsN C R g) 3) = 0) → (f (bfsN C R g) 0 = 14 → bfsV g f c j (bvisit (bfsB C) R g f (g.2.2.2 (bfsN C R g) 4)).1 (bvisit (bfsB C) R g f (g.2.2.2 (bfsN C R g) 4)).2) ∧ (¬ f (bfsN C R g) 0 = 14 → bfsV g f c j (bfsB C) R))))
theorem CF.visit {c : Nat} {C : zI} {R : zRf} {g : zG} {f : zI} {r : Option Nat} (h : CF c R) : CF c (bvisit C R g f r).2 := by
  cases r with
  | none => exact h
  | some a =>
    unfold bvisit
    simp only
    split
    · intro q hq
      show zup R 14 (tn (C 13 2)) (some a) q.1 q.2.1 = _
      rw [zup_r ((show ∀ q ∈ bF, q.1 ≠ 14 by decide) q hq)]
      exact h q hq
    · exact h
set_option maxRecDepth 20000 in
theorem Bl_X5_first {l : Launch} {d : Nat} {D : zD} {b0 : Nat} {g : zG} {f : zI} {c : Nat} (hW : CW b0 g c) (r : Option Nat) (hd : 3 ≤ d) (cs ns c1 c2 : Nat) (hcs : cs ≤ c1) (hns : ns ≤ c2) (q0 : Option Nat × zI × zRf) : ∀ (j k : Nat) (C : zI) (R : zRf) (y4 y5 : Option Value), k + j ≤ 1000000 → CF c R → zOK b0 zNo (gv c g R) → bfsV g f c j C R → bfs g f j C R = q0 → zS l d D b0 mX5_first cs ns 23 [some (.ref (c + 22)), some (va_rf r), some (.ref (c + 17)), some (.int (nI k)), y4, y5] [] (gv c g R) (cv c f C) (zq D b0 (zCy b0 zNo c g (some (va_rf q0.1)) g q0.2.2 f q0.2.1 c1 c2)) := by
  intro j
  induction j with
  | zero => intro k C R y4 y5 hk hF hw hV; exact absurd hV id
  | succ j ih =>
    intro k C R y4 y5 hk hF hw hV he
    refine z_iload3 dX5_first_23 ?_
    refine z_ldc dX5_first_24 zk_RX5_35 ?_
    refine z_icmp_ge (tgt := 149) dX5_first_26 (by decide) (fun c26 => absurd (nI_lt (b := 1000000) (by omega) (by decide)) c26) (fun c26 => ?_)
    show zS _ _ _ _ _ _ _ 29 _ _ _ _ _
    refine z_aload0 dX5_first_29 ?_
    refine zc_getI (j := 13) hW fl_RX5_28 rfl dX5_first_30 ?_
    refine z_if_le (tgt := 149) dX5_first_33 (by decide) (fun c33 => ?_) (fun c33 => ?_)
    · show zS _ _ _ _ _ _ _ 149 _ _ _ _ _
      have e : q0 = (none, C, R) := he.symm.trans (if_pos c33)
      subst e
      refine z_null dX5_first_149 ?_
      refine z_aret dX5_first_150 rfl ?_ (Or.inl ⟨_, rfl⟩)
      exact ⟨rfl, rfl, rfl, by omega, by omega, hw, zLe.rf, hW⟩
    · show zS _ _ _ _ _ _ _ 36 _ _ _ _ _
      have h0 : 0 < tn (C 13 2) := by
        rcases Nat.eq_zero_or_pos (tn (C 13 2)) with q | q
        · have e := hV.1.2; rw [q] at e; rw [e] at c33; exact absurd c33 (by decide)
        · exact q
      have hv1 := hV.1.1
      refine z_aload0 dX5_first_36 ?_
      refine zc_getI (j := 13) hW fl_RX5_28 rfl dX5_first_37 ?_
      refine z_iconst (v := 1) dX5_first_40 (by decide) ?_
      refine z_isub dX5_first_41 ?_
      refine z_istore4 dX5_first_42 ?_
      refine z_aload0 dX5_first_44 ?_
      refine zc_getF (j := 13) hW fl_RX5_17 rfl (by decide) (hF _ (List.mem_of_getElem? (i := 16) rfl)) dX5_first_45 ?_
      refine z_iload4 dX5_first_48 ?_
      refine zc_ld (j := 15) hW rfl (by decide) (ixS hV.1.2 (ixC 1) (by omega)) (by omega) dX5_first_50 ?_
      refine z_if_ne (tgt := 67) dX5_first_51 (by decide) (fun c51 => ?_) (fun c51 => ?_)
      · show zS _ _ _ _ _ _ _ 67 _ _ _ _ _
        have hX := (hV.2 h0).2 c51
        have hix := hX.2.2.1
        have hix1 := hix.1
        have hlen := hX.2.2.2.1
        refine z_aload0 dX5_first_67 ?_
        refine zc_getF (j := 13) hW fl_RX5_17 rfl (by decide) (hF _ (List.mem_of_getElem? (i := 16) rfl)) dX5_first_68 ?_
        refine z_iload4 dX5_first_71 ?_
        refine z_dup2 dX5_first_73 ?_
        refine zc_ld (j := 15) hW rfl (by decide) (ixS hV.1.2 (ixC 1) (by omega)) (by omega) dX5_first_74 ?_
        refine z_iconst (v := 1) dX5_first_75 (by decide) ?_
        refine z_isub dX5_first_76 ?_
        refine zc_st (j := 15) hW rfl (by decide) (ixS hV.1.2 (ixC 1) (by omega)) (by omega) dX5_first_77 ?_
        refine z_aload0 dX5_first_78 ?_
        refine zc_getF (j := 13) hW fl_RX5_11 rfl (by decide) (hF _ (List.mem_of_getElem? (i := 15) rfl)) dX5_first_79 ?_
        refine z_iload4 dX5_first_82 ?_
        show zS _ _ _ _ _ _ _ 84 _ _ _ _ _
        refine zc_alds (j := 14) (t' := 7) hw hW rfl (by decide) (by decide) (ixS hV.1.2 (ixC 1) (by omega)) (by omega) (fun _ => rfl) (by decide) hX.1 dX5_first_84 (fun i1 => ?_)
        refine zd_getFr hw hW fl_RX5_36 i1 (by decide) (fun h => h) (by decide) (by decide) dX5_first_85 (fun e2 i2 => ?_)
        refine z_aload0 dX5_first_88 ?_
        refine zc_getF (j := 13) hW fl_RX5_17 rfl (by decide) (hF _ (List.mem_of_getElem? (i := 16) rfl)) dX5_first_89 ?_
        refine z_iload4 dX5_first_92 ?_
        refine zc_ld (j := 15) hW rfl (by decide) (ixS hV.1.2 (ixC 1) (by omega)) (by omega) dX5_first_94 ?_
        refine zd_alds (t' := 2) hw hX.2.1 i2 (by decide) rfl hix.2 (by omega) (by first | decide | omega) (fun _ => rfl) (by decide) hX.2.2.2.2.1 dX5_first_95 (fun i3 => ?_)
        refine z_astore5 dX5_first_96 ?_
        refine z_aload5 dX5_first_98 ?_
        refine zd_getI hW fl_RX5_40 i3 (by decide) dX5_first_100 ?_
        refine z_bipush (v := 9) dX5_first_103 (by decide) ?_
        refine z_icmp_ne (tgt := 123) dX5_first_105 (by decide) (fun c105 => ?_) (fun c105 => ?_)
        · show zS _ _ _ _ _ _ _ 123 _ _ _ _ _
          have hno9 : ¬ (f (bfsN C R g) 0 = 9 ∧ bexecd (bfsB C) (f (bfsN C R g) 3) = 0) := by first | exact fun q => absurd q.1 c105 | exact fun q => absurd q.2 c117
          refine z_aload5 dX5_first_123 ?_
          refine zd_getI hW fl_RX5_40 i3 (by decide) dX5_first_125 ?_
          refine z_bipush (v := 14) dX5_first_128 (by decide) ?_
          refine z_icmp_ne (tgt := 143) dX5_first_130 (by decide) (fun c130 => ?_) (fun c130 => ?_)
          · show zS _ _ _ _ _ _ _ 143 _ _ _ _ _
            refine z_iinc3 (y := 1) dX5_first_143 (by decide) ?_
            refine z_goto (tgt := 23) dX5_first_146 (by decide) ?_
            rw [nI_1]
            exact ih (k + 1) _ _ _ _ (by omega) hF hw ((hX.2.2.2.2.2 hno9).2 c130) ((show bfs g f (j + 1) C R = _ from (if_neg (fun q => q c33)).trans ((if_neg c51).trans ((if_neg hno9).trans (if_neg c130)))).symm.trans he)
          · show zS _ _ _ _ _ _ _ 133 _ _ _ _ _
            refine z_aload0 dX5_first_133 ?_
            refine z_aload5 dX5_first_134 ?_
            refine zd_getN hw hW fl_RX5_54 i3 (by decide) (by decide) dX5_first_136 (fun i4 => ?_)
            refine z_aload2 dX5_first_139 ?_
            refine z_callV zmd_X5_visit rfl (by decide) zl_RX5_31 zin_X5_visit zsel_X5_visit (B_X5_visit (d := d - 1) hW hF hw _ i4 (by exact hV.1) (by omega)) (hW.i 13 rfl) rfl rfl (by omega) rfl dX5_first_140 (fun r5 g5 f5 mc5 ms5 q5 => ?_)
            obtain ⟨rfl, rfl, rfl, hc5, hs5, w5, k5, b5⟩ := q5
            refine z_iinc3 (y := 1) dX5_first_143 (by decide) ?_
            refine z_goto (tgt := 23) dX5_first_146 (by decide) ?_
            rw [nI_1]
            obtain rfl : mc5 = 0 := Nat.le_zero.mp hc5
            obtain rfl : ms5 = 0 := Nat.le_zero.mp hs5
            exact ih (k + 1) _ _ _ _ (by omega) hF.visit w5 ((hX.2.2.2.2.2 hno9).1 c130) ((show bfs g f (j + 1) C R = _ from (if_neg (fun q => q c33)).trans ((if_neg c51).trans ((if_neg hno9).trans (if_pos c130)))).symm.trans he)
        · show zS _ _ _ _ _ _ _ 108 _ _ _ _ _
          refine z_aload2 dX5_first_108 ?_
          refine z_aload5 dX5_first_109 ?_
          refine zd_getI hW fl_RX5_45 i3 (by decide) dX5_first_111 ?_
          refine z_callVi zmd_X3_executed rfl (by decide) zl_RX5_48 zin_X3_executed zsel_X3_executed (B_X3_executed (d := d - 1) hW hF hw _ (by omega)) (hW.i 21 rfl) rfl rfl (by omega) rfl dX5_first_114 ?_
          refine z_if_ne (tgt := 123) dX5_first_117 (by decide) (fun c117 => ?_) (fun c117 => ?_)
          · show zS _ _ _ _ _ _ _ 123 _ _ _ _ _
            have hno9 : ¬ (f (bfsN C R g) 0 = 9 ∧ bexecd (bfsB C) (f (bfsN C R g) 3) = 0) := by first | exact fun q => absurd q.1 c105 | exact fun q => absurd q.2 c117
            refine z_aload5 dX5_first_123 ?_
            refine zd_getI hW fl_RX5_40 i3 (by decide) dX5_first_125 ?_
            refine z_bipush (v := 14) dX5_first_128 (by decide) ?_
            refine z_icmp_ne (tgt := 143) dX5_first_130 (by decide) (fun c130 => ?_) (fun c130 => ?_)
            · show zS _ _ _ _ _ _ _ 143 _ _ _ _ _
              refine z_iinc3 (y := 1) dX5_first_143 (by decide) ?_
              refine z_goto (tgt := 23) dX5_first_146 (by decide) ?_
              rw [nI_1]
              exact ih (k + 1) _ _ _ _ (by omega) hF hw ((hX.2.2.2.2.2 hno9).2 c130) ((show bfs g f (j + 1) C R = _ from (if_neg (fun q => q c33)).trans ((if_neg c51).trans ((if_neg hno9).trans (if_neg c130)))).symm.trans he)
            · show zS _ _ _ _ _ _ _ 133 _ _ _ _ _
              refine z_aload0 dX5_first_133 ?_
              refine z_aload5 dX5_first_134 ?_
              refine zd_getN hw hW fl_RX5_54 i3 (by decide) (by decide) dX5_first_136 (fun i7 => ?_)
              refine z_aload2 dX5_first_139 ?_
              refine z_callV zmd_X5_visit rfl (by decide) zl_RX5_31 zin_X5_visit zsel_X5_visit (B_X5_visit (d := d - 1) hW hF hw _ i7 (by exact hV.1) (by omega)) (hW.i 13 rfl) rfl rfl (by omega) rfl dX5_first_140 (fun r8 g8 f8 mc8 ms8 q8 => ?_)
              obtain ⟨rfl, rfl, rfl, hc8, hs8, w8, k8, b8⟩ := q8
              refine z_iinc3 (y := 1) dX5_first_143 (by decide) ?_
              refine z_goto (tgt := 23) dX5_first_146 (by decide) ?_
              rw [nI_1]
              obtain rfl : mc8 = 0 := Nat.le_zero.mp hc8
              obtain rfl : ms8 = 0 := Nat.le_zero.mp hs8
              exact ih (k + 1) _ _ _ _ (by omega) hF.visit w8 ((hX.2.2.2.2.2 hno9).1 c130) ((show bfs g f (j + 1) C R = _ from (if_neg (fun q => q c33)).trans ((if_neg c51).trans ((if_neg hno9).trans (if_pos c130)))).symm.trans he)
          · show zS _ _ _ _ _ _ _ 120 _ _ _ _ _
            refine z_aload5 dX5_first_120 ?_
            refine z_aret dX5_first_122 rfl ?_ (Or.inl ⟨_, rfl⟩)
            have e : q0 = (some (bfsN C R g), bfsB C, R) := he.symm.trans ((if_neg (fun q => q c33)).trans ((if_neg c51).trans (if_pos ⟨c105, c117⟩)))
            subst e
            exact ⟨rfl, rfl, rfl, by omega, by omega, hw, zLe.rf, hW⟩
      · show zS _ _ _ _ _ _ _ 54 _ _ _ _ _
        refine z_aload0 dX5_first_54 ?_
        refine z_dup dX5_first_55 ?_
        refine zc_getI (j := 13) hW fl_RX5_28 rfl dX5_first_56 ?_
        refine z_iconst (v := 1) dX5_first_59 (by decide) ?_
        refine z_isub dX5_first_60 ?_
        refine zc_putI (j := 13) hW fl_RX5_28 rfl dX5_first_61 ?_
        refine z_goto (tgt := 143) dX5_first_64 (by decide) ?_
        show zS _ _ _ _ _ _ _ 143 _ _ _ _ _
        refine z_iinc3 (y := 1) dX5_first_143 (by decide) ?_
        refine z_goto (tgt := 23) dX5_first_146 (by decide) ?_
        rw [nI_1]
        exact ih (k + 1) _ _ _ _ (by omega) hF hw ((hV.2 h0).1 c51) ((show bfs g f (j + 1) C R = _ from (if_neg (fun q => q c33)).trans (if_pos c51)).symm.trans he)
def bfst0 (C : zI) : zI := zup (zup C 13 4 (C 13 4 + 1)) 13 2 0
def bfuel : Nat := 200000
def bfirst (g : zG) (f C : zI) (R : zRf) (r : Option Nat) : Option Nat × zI × zRf := bfs g f bfuel (bvisit (bfst0 C) R g f r).1 (bvisit (bfst0 C) R g f r).2
def bfirstV (g : zG) (f : zI) (c : Nat) (C : zI) (R : zRf) (r : Option Nat) : Prop := bfsV g f c bfuel (bvisit (bfst0 C) R g f r).1 (bvisit (bfst0 C) R g f r).2
set_option maxRecDepth 20000 in
set_option maxHeartbeats 400000 in
theorem B_X5_first {l : Launch} {d : Nat} {D : zD} {b0 : Nat} {g : zG} {f C : zI} {R : zRf} {c : Nat} (hW : CW b0 g c) (hF : CF c R) (hw : zOK b0 zNo (gv c g R)) (r : Option Nat) (hr : ∀ b, r = some b → zIn b0 g b 7) (hV : bfirstV g f c C R r) (hd : 3 ≤ d) : zM l d D b0 mX5_first [.ref (c + 22), va_rf r, .ref (c + 17)] (gv c g R) (cv c f C) (zCy b0 zNo c g (some (va_rf (bfirst g f C R r).1)) g (bfirst g f C R r).2.2 f (bfirst g f C R r).2.1 0 0) := by
  refine zM.start zmd_X5_first (Nat.le_of_ble_eq_true rfl) ⟨rfl, zcat_o _, rfl, trivial⟩ [some (.ref (c + 22)), some (va_rf r), some (.ref (c + 17)), none, none, none] rfl ?_
  refine z_aload0 dX5_first_0 ?_
  refine z_dup dX5_first_1 ?_
  refine zc_getI (j := 13) hW fl_RX5_24 rfl dX5_first_2 ?_
  refine z_iconst (v := 1) dX5_first_5 (by decide) ?_
  refine z_iadd dX5_first_6 ?_
  refine zc_putI (j := 13) hW fl_RX5_24 rfl dX5_first_7 ?_
  refine z_aload0 dX5_first_10 ?_
  refine z_iconst (v := 0) dX5_first_11 (by decide) ?_
  refine zc_putI (j := 13) hW fl_RX5_28 rfl dX5_first_12 ?_
  refine z_aload0 dX5_first_15 ?_
  refine z_aload1 dX5_first_16 ?_
  show zS _ _ _ _ _ _ _ 17 _ _ _ _ _
  refine z_aload2 dX5_first_17 ?_
  refine z_callV zmd_X5_visit rfl (by decide) zl_RX5_31 zin_X5_visit zsel_X5_visit (B_X5_visit (d := d - 1) hW hF hw _ hr (⟨by decide, by decide⟩ : iv 1001 (0 : Int32)) (by omega)) (hW.i 13 rfl) rfl rfl (by omega) rfl dX5_first_18 (fun r1 g1 f1 mc1 ms1 q1 => ?_)
  obtain ⟨rfl, rfl, rfl, hc1, hs1, w1, k1, b1⟩ := q1
  refine z_iconst (v := 0) dX5_first_21 (by decide) ?_
  refine z_istore3 dX5_first_22 ?_
  obtain rfl : mc1 = 0 := Nat.le_zero.mp hc1
  obtain rfl : ms1 = 0 := Nat.le_zero.mp hs1
  exact Bl_X5_first hW r hd _ _ 0 0 (by omega) (by omega) _ bfuel 0 _ _ none none (by decide) hF.visit w1 hV rfl
