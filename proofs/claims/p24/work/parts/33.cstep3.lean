/-! The class's run: a step from an expression, a step from a value, a step, over the block. -/
def bkind (v : Int32) : Int32 := if v = 33 then 6 else if v = 37 then 9 else if v = 38 then 10 else if v = 59 then 4 else if v = 61 then 5 else if v = 63 then 3 else if v = 64 then 11 else if v = 94 then 7 else if v = 123 then 12 else if v = 126 then 8 else 1
theorem bkind_33 {v : Int32} (h : v = 33) : bkind v = 6 := by rw [h]; decide
theorem bkind_37 {v : Int32} (h : v = 37) : bkind v = 9 := by rw [h]; decide
theorem bkind_38 {v : Int32} (h : v = 38) : bkind v = 10 := by rw [h]; decide
theorem bkind_59 {v : Int32} (h : v = 59) : bkind v = 4 := by rw [h]; decide
theorem bkind_61 {v : Int32} (h : v = 61) : bkind v = 5 := by rw [h]; decide
theorem bkind_63 {v : Int32} (h : v = 63) : bkind v = 3 := by rw [h]; decide
theorem bkind_64 {v : Int32} (h : v = 64) : bkind v = 11 := by rw [h]; decide
theorem bkind_94 {v : Int32} (h : v = 94) : bkind v = 7 := by rw [h]; decide
theorem bkind_123 {v : Int32} (h : v = 123) : bkind v = 12 := by rw [h]; decide
theorem bkind_126 {v : Int32} (h : v = 126) : bkind v = 8 := by rw [h]; decide
theorem bkind_d {v : Int32} (h0 : ¬ v = 33) (h1 : ¬ v = 37) (h2 : ¬ v = 38) (h3 : ¬ v = 59) (h4 : ¬ v = 61) (h5 : ¬ v = 63) (h6 : ¬ v = 64) (h7 : ¬ v = 94) (h8 : ¬ v = 123) (h9 : ¬ v = 126) : bkind v = 1 := (if_neg h0).trans ((if_neg h1).trans ((if_neg h2).trans ((if_neg h3).trans ((if_neg h4).trans ((if_neg h5).trans ((if_neg h6).trans ((if_neg h7).trans ((if_neg h8).trans ((if_neg h9).trans (rfl))))))))))
set_option maxRecDepth 20000 in
set_option maxHeartbeats 400000 in
theorem B_X1_kindOfFrame {l : Launch} {d : Nat} {D : zD} {b0 : Nat} {g : zG} {f C : zI} {R : zRf} {c : Nat} (hW : CW b0 g c) (hF : CF c R) (hw : zOK b0 zNo (gv c g R)) (e : Nat) (he : zIn b0 g e 1) : zM l d D b0 mX1_kindOfFrame [.ref e] (gv c g R) (cv c f C) (zEx (some (.int (bkind (f e 0)))) (gv c g R) (cv c f C)) := by
  refine zM.start zmd_X1_kindOfFrame (Nat.le_of_ble_eq_true rfl) ⟨rfl, trivial⟩ [some (.ref e)] rfl ?_
  refine z_aload0 dX1_kindOfFrame_0 ?_
  refine zd_getI hW fl_RX1_9 he (by decide) dX1_kindOfFrame_1 ?_
  refine z_look dX1_kindOfFrame_4 (by decide +kernel) (by decide +kernel) ?_
  refine ⟨fun c4_0 => ?_, fun nc4_0 => ?_⟩
  · show zS _ _ _ _ _ _ _ 102 _ _ _ _ _
    rw [bkind_33 c4_0]
    refine z_bipush (v := 6) dX1_kindOfFrame_102 (by decide) ?_
    refine z_iret dX1_kindOfFrame_104 rfl ?_
    exact ⟨rfl, rfl, rfl, rfl, rfl⟩
  refine ⟨fun c4_1 => ?_, fun nc4_1 => ?_⟩
  · show zS _ _ _ _ _ _ _ 111 _ _ _ _ _
    rw [bkind_37 c4_1]
    refine z_bipush (v := 9) dX1_kindOfFrame_111 (by decide) ?_
    refine z_iret dX1_kindOfFrame_113 rfl ?_
    exact ⟨rfl, rfl, rfl, rfl, rfl⟩
  refine ⟨fun c4_2 => ?_, fun nc4_2 => ?_⟩
  · show zS _ _ _ _ _ _ _ 114 _ _ _ _ _
    rw [bkind_38 c4_2]
    refine z_bipush (v := 10) dX1_kindOfFrame_114 (by decide) ?_
    refine z_iret dX1_kindOfFrame_116 rfl ?_
    exact ⟨rfl, rfl, rfl, rfl, rfl⟩
  refine ⟨fun c4_3 => ?_, fun nc4_3 => ?_⟩
  · show zS _ _ _ _ _ _ _ 98 _ _ _ _ _
    rw [bkind_59 c4_3]
    refine z_iconst (v := 4) dX1_kindOfFrame_98 (by decide) ?_
    refine z_iret dX1_kindOfFrame_99 rfl ?_
    exact ⟨rfl, rfl, rfl, rfl, rfl⟩
  refine ⟨fun c4_4 => ?_, fun nc4_4 => ?_⟩
  · show zS _ _ _ _ _ _ _ 100 _ _ _ _ _
    rw [bkind_61 c4_4]
    refine z_iconst (v := 5) dX1_kindOfFrame_100 (by decide) ?_
    refine z_iret dX1_kindOfFrame_101 rfl ?_
    exact ⟨rfl, rfl, rfl, rfl, rfl⟩
  refine ⟨fun c4_5 => ?_, fun nc4_5 => ?_⟩
  · show zS _ _ _ _ _ _ _ 96 _ _ _ _ _
    rw [bkind_63 c4_5]
    refine z_iconst (v := 3) dX1_kindOfFrame_96 (by decide) ?_
    refine z_iret dX1_kindOfFrame_97 rfl ?_
    exact ⟨rfl, rfl, rfl, rfl, rfl⟩
  refine ⟨fun c4_6 => ?_, fun nc4_6 => ?_⟩
  · show zS _ _ _ _ _ _ _ 117 _ _ _ _ _
    rw [bkind_64 c4_6]
    refine z_bipush (v := 11) dX1_kindOfFrame_117 (by decide) ?_
    refine z_iret dX1_kindOfFrame_119 rfl ?_
    exact ⟨rfl, rfl, rfl, rfl, rfl⟩
  refine ⟨fun c4_7 => ?_, fun nc4_7 => ?_⟩
  · show zS _ _ _ _ _ _ _ 105 _ _ _ _ _
    rw [bkind_94 c4_7]
    refine z_bipush (v := 7) dX1_kindOfFrame_105 (by decide) ?_
    refine z_iret dX1_kindOfFrame_107 rfl ?_
    exact ⟨rfl, rfl, rfl, rfl, rfl⟩
  refine ⟨fun c4_8 => ?_, fun nc4_8 => ?_⟩
  · show zS _ _ _ _ _ _ _ 120 _ _ _ _ _
    rw [bkind_123 c4_8]
    refine z_bipush (v := 12) dX1_kindOfFrame_120 (by decide) ?_
    refine z_iret dX1_kindOfFrame_122 rfl ?_
    exact ⟨rfl, rfl, rfl, rfl, rfl⟩
  refine ⟨fun c4_9 => ?_, fun nc4_9 => ?_⟩
  · show zS _ _ _ _ _ _ _ 108 _ _ _ _ _
    rw [bkind_126 c4_9]
    refine z_bipush (v := 8) dX1_kindOfFrame_108 (by decide) ?_
    refine z_iret dX1_kindOfFrame_110 rfl ?_
    exact ⟨rfl, rfl, rfl, rfl, rfl⟩
  show zS _ _ _ _ _ _ _ 123 _ _ _ _ _
  rw [bkind_d nc4_0 nc4_1 nc4_2 nc4_3 nc4_4 nc4_5 nc4_6 nc4_7 nc4_8 nc4_9]
  refine z_iconst (v := 1) dX1_kindOfFrame_123 (by decide) ?_
  refine z_iret dX1_kindOfFrame_124 rfl ?_
  exact ⟨rfl, rfl, rfl, rfl, rfl⟩
theorem bst_r {C : zI} {j : Nat} {x v : Int32} {r : Nat} (h : r ≠ j) : bst C j x v r = C r := by
  unfold bst
  split
  · exact zup_r h
  · rfl
theorem bnewFin_r {C : zI} {r : Nat} (h1 : r ≠ 21) (h2 : r ≠ 23) : bnewFin C r = C r := by
  show zup (bst C 23 (C 21 5) 0) 21 5 _ r = C r
  rw [zup_r h1, bst_r h2]
def bpsh (g : zG) (R : zRf) (f C : zI) (k y : Int32) (e : Nat) (r : Option Nat) : bSt :=
  (dFr g (some e) (R 17 5) r, bgoTo (zup R 20 (tn (C 19 1)) (some g.1)) ((dFr g (some e) (R 17 5) r).2.2.2 e 2) (R 17 5), dFrF g f k y, bpushC C)
/-- a step from expression e; variables are looked up with fuel k -/
def binto (g : zG) (R : zRf) (f C : zI) (e k : Nat) : bSt × Int32 :=
  if f e 0 = 48 then ((g, zup R 17 4 none, f, zup C 17 6 (f e 1)), 1) else
  if f e 0 = 97 then ((g, zup R 17 4 none, f, zup C 17 6 (blook g f (f e 1) k (R 17 5))), 1) else
  if 100 < C 19 1 + 1 then ((g, R, f, C), 0) else
  if bkind (f e 0) = 9 then (bpsh g R f (bnewFin C) (bkind (f e 0)) (C 21 5) e none, 1) else
  if bkind (f e 0) = 11 then (bpsh g R f C (bkind (f e 0)) 0 e (bresIn g (R 17 5)), 1) else (bpsh g R f C (bkind (f e 0)) 0 e none, 1)
theorem binto_48 {g : zG} {R : zRf} {f C : zI} {e k : Nat}  (h0 : f e 0 = 48) : binto g R f C e k = ((g, zup R 17 4 none, f, zup C 17 6 (f e 1)), 1) := if_pos h0
theorem binto_97 {g : zG} {R : zRf} {f C : zI} {e k : Nat} (h0 : ¬ f e 0 = 48) (h1 : f e 0 = 97) : binto g R f C e k = ((g, zup R 17 4 none, f, zup C 17 6 (blook g f (f e 1) k (R 17 5))), 1) := (if_neg h0).trans (if_pos h1)
theorem binto_no {g : zG} {R : zRf} {f C : zI} {e k : Nat} (h0 : ¬ f e 0 = 48) (h1 : ¬ f e 0 = 97) (h2 : 100 < C 19 1 + 1) : binto g R f C e k = ((g, R, f, C), 0) := (if_neg h0).trans ((if_neg h1).trans (if_pos h2))
theorem binto_9 {g : zG} {R : zRf} {f C : zI} {e k : Nat} (h0 : ¬ f e 0 = 48) (h1 : ¬ f e 0 = 97) (h2 : ¬ 100 < C 19 1 + 1) (h3 : bkind (f e 0) = 9) : binto g R f C e k = (bpsh g R f (bnewFin C) (bkind (f e 0)) (C 21 5) e none, 1) := (if_neg h0).trans ((if_neg h1).trans ((if_neg h2).trans (if_pos h3)))
theorem binto_11 {g : zG} {R : zRf} {f C : zI} {e k : Nat} (h0 : ¬ f e 0 = 48) (h1 : ¬ f e 0 = 97) (h2 : ¬ 100 < C 19 1 + 1) (h3 : ¬ bkind (f e 0) = 9) (h4 : bkind (f e 0) = 11) : binto g R f C e k = (bpsh g R f C (bkind (f e 0)) 0 e (bresIn g (R 17 5)), 1) := (if_neg h0).trans ((if_neg h1).trans ((if_neg h2).trans ((if_neg h3).trans (if_pos h4))))
theorem binto_d {g : zG} {R : zRf} {f C : zI} {e k : Nat} (h0 : ¬ f e 0 = 48) (h1 : ¬ f e 0 = 97) (h2 : ¬ 100 < C 19 1 + 1) (h3 : ¬ bkind (f e 0) = 9) (h4 : ¬ bkind (f e 0) = 11) : binto g R f C e k = (bpsh g R f C (bkind (f e 0)) 0 e none, 1) := (if_neg h0).trans ((if_neg h1).trans ((if_neg h2).trans ((if_neg h3).trans ((if_neg h4).trans (rfl)))))
theorem CF.into {c : Nat} {g : zG} {R : zRf} {f C : zI} {e k : Nat} (h : CF c R) : CF c (binto g R f C e k).1.2.1 := by
  unfold binto
  repeat' split
  all_goals first
    | exact h
    | exact h.gow
    | exact h.push.goTo
def bintoc (f : zI) (e : Nat) : Nat := if f e 0 = 48 then 0 else if f e 0 = 97 then 0 else 5
set_option maxRecDepth 20000 in
set_option maxHeartbeats 400000 in
theorem B_X8_stepInto {l : Launch} {d : Nat} {D : zD} {b0 : Nat} {g : zG} {f C : zI} {R : zRf} {c : Nat} (hW : CW b0 g c) (hF : CF c R) (hw : zOK b0 zNo (gv c g R)) (e k : Nat) (he : zIn b0 g e 1) (dp : Nat) (hdp : C 19 1 = nI dp) (h100 : dp ≤ 100) (hV : f e 0 = 97 → blookV g f (f e 1) k (R 17 5)) (hd : 2 ≤ d) : zM l d D b0 mX8_stepInto [.ref (c + 13), .ref e] (gv c g R) (cv c f C) (zCy b0 zNo c g (some (.int (binto g R f C e k).2)) (binto g R f C e k).1.1 (binto g R f C e k).1.2.1 (binto g R f C e k).1.2.2.1 (binto g R f C e k).1.2.2.2 (min 4 (bintoc f e / 5)) (bintoc f e)) := by
  refine zM.start zmd_X8_stepInto (Nat.le_of_ble_eq_true rfl) ⟨rfl, rfl, trivial⟩ [some (.ref (c + 13)), some (.ref e), none, none, none] rfl ?_
  refine z_aload1 dX8_stepInto_0 ?_
  refine zd_getI hW fl_RX8_176 he (by decide) dX8_stepInto_1 ?_
  refine z_bipush (v := 48) dX8_stepInto_4 (by decide) ?_
  refine z_icmp_ne (tgt := 24) dX8_stepInto_6 (by decide) (fun c6 => ?_) (fun c6 => ?_)
  · show zS _ _ _ _ _ _ _ 24 _ _ _ _ _
    refine z_aload1 dX8_stepInto_24 ?_
    refine zd_getI hW fl_RX8_176 he (by decide) dX8_stepInto_25 ?_
    refine z_bipush (v := 97) dX8_stepInto_28 (by decide) ?_
    refine z_icmp_ne (tgt := 55) dX8_stepInto_30 (by decide) (fun c30 => ?_) (fun c30 => ?_)
    · show zS _ _ _ _ _ _ _ 55 _ _ _ _ _
      refine z_aload0 dX8_stepInto_55 ?_
      refine zc_getF (j := 17) hW fl_RX8_24 rfl (by decide) (hF _ (List.mem_of_getElem? (i := 19) rfl)) dX8_stepInto_56 ?_
      refine z_iconst (v := 1) dX8_stepInto_59 (by decide) ?_
      refine z_callVi zmd_X10_hasRoomFor rfl (by decide) zl_RX8_185 zin_X10_hasRoomFor zsel_X10_hasRoomFor (B_X10_hasRoomFor (d := d - 1) hW hF hw _) (hW.i 19 rfl) rfl rfl (by omega) rfl dX8_stepInto_60 ?_
      refine z_if_ne (tgt := 68) dX8_stepInto_63 (by decide) (fun c63 => ?_) (fun c63 => ?_)
      · show zS _ _ _ _ _ _ _ 68 _ _ _ _ _
        have hrm := zB_t c63
        have hroom := iv_room hdp h100 hrm
        refine z_aload1 dX8_stepInto_68 ?_
        refine z_callVi zmd_X1_kindOfFrame rfl (by decide) zl_RX8_189 zin_X1_kindOfFrame zsel_X1_kindOfFrame (B_X1_kindOfFrame (d := d - 1) hW hF hw _ he) he rfl rfl (by omega) rfl dX8_stepInto_69 ?_
        refine z_istore2 dX8_stepInto_72 ?_
        refine z_iload2 dX8_stepInto_73 ?_
        refine z_bipush (v := 9) dX8_stepInto_74 (by decide) ?_
        refine z_icmp_ne (tgt := 89) dX8_stepInto_76 (by decide) (fun c76 => ?_) (fun c76 => ?_)
        · show zS _ _ _ _ _ _ _ 89 _ _ _ _ _
          refine z_iconst (v := 0) dX8_stepInto_89 (by decide) ?_
          refine z_istore3 dX8_stepInto_90 ?_
          refine z_iload2 dX8_stepInto_91 ?_
          refine z_bipush (v := 11) dX8_stepInto_92 (by decide) ?_
          refine z_icmp_ne (tgt := 107) dX8_stepInto_94 (by decide) (fun c94 => ?_) (fun c94 => ?_)
          · show zS _ _ _ _ _ _ _ 107 _ _ _ _ _
            refine z_null dX8_stepInto_107 ?_
            refine z_astore4 dX8_stepInto_108 ?_
            refine z_aload0 dX8_stepInto_110 ?_
            refine zc_getF (j := 17) hW fl_RX8_24 rfl (by decide) (hF _ (List.mem_of_getElem? (i := 19) rfl)) dX8_stepInto_111 ?_
            refine zd_new hw hW zcls_X2 zc_RX8_104 zi_RX2 zini_RX2 (by decide) dX8_stepInto_114 (fun w3 k3 b3 i3 => ?_)
            refine z_dup dX8_stepInto_117 ?_
            refine z_iload2 dX8_stepInto_118 ?_
            refine z_aload1 dX8_stepInto_119 ?_
            refine z_aload0 dX8_stepInto_120 ?_
            refine zc_getN (j := 17) w3 b3 fl_RX8_60 rfl (by decide) dX8_stepInto_121 (fun i4 => ?_)
            refine z_iload3 dX8_stepInto_124 ?_
            show zS _ _ _ _ _ _ _ 125 _ _ _ _ _
            refine z_aload4 dX8_stepInto_125 ?_
            refine z_callI zmd_X2_init rfl rfl zl_RX8_169 zin_X2_init (B_X2_init (d := d - 1) b3 w3 _ _ _ (some _) _ none hW.newout i3 (fun b hb => by cases hb; exact (he.le k3)) i4 (fun b hb => by cases hb) (by omega)) rfl rfl (by omega) rfl dX8_stepInto_127 (fun r5 g5 f5 mc5 ms5 q5 => ?_)
            obtain ⟨rfl, rfl, rfl, hc5, hs5, w5, k5, b5⟩ := q5
            refine z_callV zmd_X10_push rfl (by decide) zl_RX8_172 zin_X10_push zsel_X10_push (B_X10_push (d := d - 1) b5 hF w5 _ (i3.le k5) (by first | exact hroom | (rw [bnewFin_r (by decide) (by decide)]; exact hroom)) (by omega)) (b5.i 19 rfl) rfl rfl (by omega) rfl dX8_stepInto_130 (fun r6 g6 f6 mc6 ms6 q6 => ?_)
            obtain ⟨rfl, rfl, rfl, hc6, hs6, w6, k6, b6⟩ := q6
            refine z_aload0 dX8_stepInto_133 ?_
            refine z_aload1 dX8_stepInto_134 ?_
            refine zd_getN w6 b6 fl_RX8_199 (((he.le k3).le k5).le k6) (by decide) (by decide) dX8_stepInto_135 (fun i7 => ?_)
            refine z_aload0 dX8_stepInto_138 ?_
            refine zc_getN (j := 17) w6 b6 fl_RX8_60 rfl (by decide) dX8_stepInto_139 (fun i8 => ?_)
            refine z_callV zmd_X8_goTo rfl (by decide) zl_RX8_89 zin_X8_goTo zsel_X8_goTo (B_X8_goTo (d := d - 1) b6 (hF.push) w6 _ _ i7 i8) (b6.i 17 rfl) rfl rfl (by omega) rfl dX8_stepInto_142 (fun r9 g9 f9 mc9 ms9 q9 => ?_)
            obtain ⟨rfl, rfl, rfl, hc9, hs9, w9, k9, b9⟩ := q9
            refine z_iconst (v := 1) dX8_stepInto_145 (by decide) ?_
            refine z_iret dX8_stepInto_146 rfl ?_
            rw [show bintoc f e = 5 from (if_neg c6).trans (if_neg c30)]
            rw [binto_d c6 c30 hrm c76 c94]
            exact ⟨rfl, rfl, rfl, by omega, by omega, w9, (((k3.tr k5).tr k6).tr k9), b9⟩
          · show zS _ _ _ _ _ _ _ 97 _ _ _ _ _
            refine z_aload0 dX8_stepInto_97 ?_
            refine zc_getN (j := 17) hw hW fl_RX8_60 rfl (by decide) dX8_stepInto_98 (fun i10 => ?_)
            refine z_callS zmd_X9_resumptionIn zl_RX8_195 zst_X9_resumptionIn (B_X9_resumptionIn (d := d - 1) hW hF hw _ i10) rfl rfl (by omega) rfl dX8_stepInto_101 (fun r11 g11 f11 mc11 ms11 q11 => ?_)
            obtain ⟨rfl, rfl, rfl, rfl, rfl⟩ := q11
            refine z_goto (tgt := 108) dX8_stepInto_104 (by decide) ?_
            show zS _ _ _ _ _ _ _ 108 _ _ _ _ _
            refine z_astore4 dX8_stepInto_108 ?_
            refine z_aload0 dX8_stepInto_110 ?_
            refine zc_getF (j := 17) hW fl_RX8_24 rfl (by decide) (hF _ (List.mem_of_getElem? (i := 19) rfl)) dX8_stepInto_111 ?_
            refine zd_new hw hW zcls_X2 zc_RX8_104 zi_RX2 zini_RX2 (by decide) dX8_stepInto_114 (fun w12 k12 b12 i12 => ?_)
            refine z_dup dX8_stepInto_117 ?_
            refine z_iload2 dX8_stepInto_118 ?_
            refine z_aload1 dX8_stepInto_119 ?_
            refine z_aload0 dX8_stepInto_120 ?_
            refine zc_getN (j := 17) w12 b12 fl_RX8_60 rfl (by decide) dX8_stepInto_121 (fun i13 => ?_)
            refine z_iload3 dX8_stepInto_124 ?_
            refine z_aload4 dX8_stepInto_125 ?_
            show zS _ _ _ _ _ _ _ 127 _ _ _ _ _
            refine z_callI zmd_X2_init rfl rfl zl_RX8_169 zin_X2_init (B_X2_init (d := d - 1) b12 w12 _ _ _ (some _) _ _ hW.newout i12 (fun b hb => by cases hb; exact (he.le k12)) i13 (fun b hb => ((fun b hb => bresIn_in hw hW i10 b hb) b hb).le k12) (by omega)) rfl rfl (by omega) rfl dX8_stepInto_127 (fun r14 g14 f14 mc14 ms14 q14 => ?_)
            obtain ⟨rfl, rfl, rfl, hc14, hs14, w14, k14, b14⟩ := q14
            refine z_callV zmd_X10_push rfl (by decide) zl_RX8_172 zin_X10_push zsel_X10_push (B_X10_push (d := d - 1) b14 hF w14 _ (i12.le k14) (by first | exact hroom | (rw [bnewFin_r (by decide) (by decide)]; exact hroom)) (by omega)) (b14.i 19 rfl) rfl rfl (by omega) rfl dX8_stepInto_130 (fun r15 g15 f15 mc15 ms15 q15 => ?_)
            obtain ⟨rfl, rfl, rfl, hc15, hs15, w15, k15, b15⟩ := q15
            refine z_aload0 dX8_stepInto_133 ?_
            refine z_aload1 dX8_stepInto_134 ?_
            refine zd_getN w15 b15 fl_RX8_199 (((he.le k12).le k14).le k15) (by decide) (by decide) dX8_stepInto_135 (fun i16 => ?_)
            refine z_aload0 dX8_stepInto_138 ?_
            refine zc_getN (j := 17) w15 b15 fl_RX8_60 rfl (by decide) dX8_stepInto_139 (fun i17 => ?_)
            refine z_callV zmd_X8_goTo rfl (by decide) zl_RX8_89 zin_X8_goTo zsel_X8_goTo (B_X8_goTo (d := d - 1) b15 (hF.push) w15 _ _ i16 i17) (b15.i 17 rfl) rfl rfl (by omega) rfl dX8_stepInto_142 (fun r18 g18 f18 mc18 ms18 q18 => ?_)
            obtain ⟨rfl, rfl, rfl, hc18, hs18, w18, k18, b18⟩ := q18
            refine z_iconst (v := 1) dX8_stepInto_145 (by decide) ?_
            refine z_iret dX8_stepInto_146 rfl ?_
            rw [show bintoc f e = 5 from (if_neg c6).trans (if_neg c30)]
            rw [binto_11 c6 c30 hrm c76 c94]
            exact ⟨rfl, rfl, rfl, by omega, by omega, w18, (((k12.tr k14).tr k15).tr k18), b18⟩
        · show zS _ _ _ _ _ _ _ 79 _ _ _ _ _
          refine z_aload0 dX8_stepInto_79 ?_
          refine zc_getF (j := 17) hW fl_RX8_31 rfl (by decide) (hF _ (List.mem_of_getElem? (i := 20) rfl)) dX8_stepInto_80 ?_
          refine z_callV zmd_X3_newFinalizer rfl (by decide) zl_RX8_192 zin_X3_newFinalizer zsel_X3_newFinalizer (B_X3_newFinalizer (d := d - 1) hW hF hw  (by omega)) (hW.i 21 rfl) rfl rfl (by omega) rfl dX8_stepInto_83 (fun r19 g19 f19 mc19 ms19 q19 => ?_)
          obtain ⟨rfl, rfl, rfl, hc19, hs19, w19, k19, b19⟩ := q19
          refine z_goto (tgt := 90) dX8_stepInto_86 (by decide) ?_
          show zS _ _ _ _ _ _ _ 90 _ _ _ _ _
          refine z_istore3 dX8_stepInto_90 ?_
          refine z_iload2 dX8_stepInto_91 ?_
          refine z_bipush (v := 11) dX8_stepInto_92 (by decide) ?_
          refine z_icmp_ne (tgt := 107) dX8_stepInto_94 (by decide) (fun c94 => ?_) (fun c94 => ?_)
          · show zS _ _ _ _ _ _ _ 107 _ _ _ _ _
            refine z_null dX8_stepInto_107 ?_
            refine z_astore4 dX8_stepInto_108 ?_
            refine z_aload0 dX8_stepInto_110 ?_
            refine zc_getF (j := 17) b19 fl_RX8_24 rfl (by decide) (hF _ (List.mem_of_getElem? (i := 19) rfl)) dX8_stepInto_111 ?_
            refine zd_new w19 b19 zcls_X2 zc_RX8_104 zi_RX2 zini_RX2 (by decide) dX8_stepInto_114 (fun w20 k20 b20 i20 => ?_)
            refine z_dup dX8_stepInto_117 ?_
            refine z_iload2 dX8_stepInto_118 ?_
            refine z_aload1 dX8_stepInto_119 ?_
            refine z_aload0 dX8_stepInto_120 ?_
            refine zc_getN (j := 17) w20 b20 fl_RX8_60 rfl (by decide) dX8_stepInto_121 (fun i21 => ?_)
            refine z_iload3 dX8_stepInto_124 ?_
            show zS _ _ _ _ _ _ _ 125 _ _ _ _ _
            refine z_aload4 dX8_stepInto_125 ?_
            refine z_callI zmd_X2_init rfl rfl zl_RX8_169 zin_X2_init (B_X2_init (d := d - 1) b20 w20 _ _ _ (some _) _ none b19.newout i20 (fun b hb => by cases hb; exact ((he.le k19).le k20)) i21 (fun b hb => by cases hb) (by omega)) rfl rfl (by omega) rfl dX8_stepInto_127 (fun r22 g22 f22 mc22 ms22 q22 => ?_)
            obtain ⟨rfl, rfl, rfl, hc22, hs22, w22, k22, b22⟩ := q22
            refine z_callV zmd_X10_push rfl (by decide) zl_RX8_172 zin_X10_push zsel_X10_push (B_X10_push (d := d - 1) b22 hF w22 _ (i20.le k22) (by first | exact hroom | (rw [bnewFin_r (by decide) (by decide)]; exact hroom)) (by omega)) (b22.i 19 rfl) rfl rfl (by omega) rfl dX8_stepInto_130 (fun r23 g23 f23 mc23 ms23 q23 => ?_)
            obtain ⟨rfl, rfl, rfl, hc23, hs23, w23, k23, b23⟩ := q23
            refine z_aload0 dX8_stepInto_133 ?_
            refine z_aload1 dX8_stepInto_134 ?_
            refine zd_getN w23 b23 fl_RX8_199 ((((he.le k19).le k20).le k22).le k23) (by decide) (by decide) dX8_stepInto_135 (fun i24 => ?_)
            refine z_aload0 dX8_stepInto_138 ?_
            refine zc_getN (j := 17) w23 b23 fl_RX8_60 rfl (by decide) dX8_stepInto_139 (fun i25 => ?_)
            refine z_callV zmd_X8_goTo rfl (by decide) zl_RX8_89 zin_X8_goTo zsel_X8_goTo (B_X8_goTo (d := d - 1) b23 (hF.push) w23 _ _ i24 i25) (b23.i 17 rfl) rfl rfl (by omega) rfl dX8_stepInto_142 (fun r26 g26 f26 mc26 ms26 q26 => ?_)
            obtain ⟨rfl, rfl, rfl, hc26, hs26, w26, k26, b26⟩ := q26
            refine z_iconst (v := 1) dX8_stepInto_145 (by decide) ?_
            refine z_iret dX8_stepInto_146 rfl ?_
            rw [show bintoc f e = 5 from (if_neg c6).trans (if_neg c30)]
            rw [binto_9 c6 c30 hrm c76]
            exact ⟨rfl, rfl, rfl, by omega, by omega, w26, ((((k19.tr k20).tr k22).tr k23).tr k26), b26⟩
          · exact absurd (c76.symm.trans c94) (by decide)
      · show zS _ _ _ _ _ _ _ 66 _ _ _ _ _
        rw [binto_no c6 c30 (Classical.not_not.mp (zB_f c63))]
        refine z_iconst (v := 0) dX8_stepInto_66 (by decide) ?_
        refine z_iret dX8_stepInto_67 rfl ?_
        exact ⟨rfl, rfl, rfl, by omega, by omega, hw, zLe.rf, hW⟩
    · show zS _ _ _ _ _ _ _ 33 _ _ _ _ _
      rw [binto_97 c6 c30]
      refine z_aload0 dX8_stepInto_33 ?_
      refine z_aload0 dX8_stepInto_34 ?_
      refine zc_getN (j := 17) hw hW fl_RX8_60 rfl (by decide) dX8_stepInto_35 (fun i27 => ?_)
      refine z_aload1 dX8_stepInto_38 ?_
      refine zd_getI hW fl_RX8_111 he (by decide) dX8_stepInto_39 ?_
      refine z_callSi zmd_X9_lookUp zl_RX8_179 zst_X9_lookUp (B_X9_lookUp (d := d - 1) hW hF hw _ _ k i27 (hV c30)) rfl rfl (by omega) rfl dX8_stepInto_42 ?_
      refine zc_putI (j := 17) hW fl_RX8_64 rfl dX8_stepInto_45 ?_
      refine z_aload0 dX8_stepInto_48 ?_
      refine z_null dX8_stepInto_49 ?_
      refine zc_putRn (j := 17) hw hW fl_RX8_56 rfl (by decide) (Or.inl ⟨_, rfl⟩) (by decide) dX8_stepInto_50 (fun w29 => ?_)
      refine z_iconst (v := 1) dX8_stepInto_53 (by decide) ?_
      show zS _ _ _ _ _ _ _ 54 _ _ _ _ _
      refine z_iret dX8_stepInto_54 rfl ?_
      exact ⟨rfl, rfl, rfl, by omega, by omega, w29, zLe.rf, hW⟩
  · show zS _ _ _ _ _ _ _ 9 _ _ _ _ _
    rw [binto_48 c6]
    refine z_aload0 dX8_stepInto_9 ?_
    refine z_aload1 dX8_stepInto_10 ?_
    refine zd_getI hW fl_RX8_111 he (by decide) dX8_stepInto_11 ?_
    refine zc_putI (j := 17) hW fl_RX8_64 rfl dX8_stepInto_14 ?_
    refine z_aload0 dX8_stepInto_17 ?_
    refine z_null dX8_stepInto_18 ?_
    refine zc_putRn (j := 17) hw hW fl_RX8_56 rfl (by decide) (Or.inl ⟨_, rfl⟩) (by decide) dX8_stepInto_19 (fun w30 => ?_)
    refine z_iconst (v := 1) dX8_stepInto_22 (by decide) ?_
    refine z_iret dX8_stepInto_23 rfl ?_
    exact ⟨rfl, rfl, rfl, by omega, by omega, w30, zLe.rf, hW⟩
theorem bresuA_01 (g : zG) (C : zI) (r : Option Nat) : bresuA g C r = 0 ∨ bresuA g C r = 1 := by
  cases r with
  | none => exact Or.inl rfl
  | some a =>
    unfold bresuA
    simp only
    split
    · exact Or.inl rfl
    · exact Or.inr rfl
theorem blclA_01 (g : zG) (R : zRf) (f C : zI) (x : Nat) : blclA g R f C x = 0 ∨ blclA g R f C x = 1 := by
  unfold blclA
  split
  · exact Or.inr rfl
  · split
    · exact Or.inl rfl
    · exact Or.inr rfl
/-- a step from a value to the frame on top -/
def bout (g : zG) (R : zRf) (f C : zI) (dp : Nat) : Option Nat → bSt × Int32
  | none => ((g, R, f, C), 0)
  | some x =>
    if f x 0 = 11 then ((g, (bresu g R f C (g.2.2.2 x 4)).1, f, (bresu g R f C (g.2.2.2 x 4)).2), bresuA g C (g.2.2.2 x 4)) else
    if f x 0 = 14 then (blcl g R f C x, blclA g R f C x) else
    if f x 0 = 13 then ((g, R, f, zup (bpopC C) 17 6 (f x 3)), 1) else
    if f x 0 = 7 then (bperf g R f (bpopC C) (f (pA g x 1) 1) (dp - 1), 1) else (bgoat g R f (bpopC C) x (pA g x 1), 1)
theorem bout_11 {g : zG} {R : zRf} {f C : zI} {dp x : Nat} (h : f x 0 = 11) : bout g R f C dp (some x) = ((g, (bresu g R f C (g.2.2.2 x 4)).1, f, (bresu g R f C (g.2.2.2 x 4)).2), bresuA g C (g.2.2.2 x 4)) := if_pos h
theorem bout_14 {g : zG} {R : zRf} {f C : zI} {dp x : Nat} (h : f x 0 = 14) : bout g R f C dp (some x) = (blcl g R f C x, blclA g R f C x) := (if_neg (by rw [h]; decide)).trans (if_pos h)
theorem bout_13 {g : zG} {R : zRf} {f C : zI} {dp x : Nat} (h : f x 0 = 13) : bout g R f C dp (some x) = ((g, R, f, zup (bpopC C) 17 6 (f x 3)), 1) := (if_neg (by rw [h]; decide)).trans ((if_neg (by rw [h]; decide)).trans (if_pos h))
theorem bout_7 {g : zG} {R : zRf} {f C : zI} {dp x : Nat} (h : f x 0 = 7) : bout g R f C dp (some x) = (bperf g R f (bpopC C) (f (pA g x 1) 1) (dp - 1), 1) := (if_neg (by rw [h]; decide)).trans ((if_neg (by rw [h]; decide)).trans ((if_neg (by rw [h]; decide)).trans (if_pos h)))
theorem bout_d {g : zG} {R : zRf} {f C : zI} {dp x : Nat} (h11 : ¬ f x 0 = 11) (h14 : ¬ f x 0 = 14) (h13 : ¬ f x 0 = 13) (h7 : ¬ f x 0 = 7) : bout g R f C dp (some x) = (bgoat g R f (bpopC C) x (pA g x 1), 1) := (if_neg h11).trans ((if_neg h14).trans ((if_neg h13).trans (if_neg h7)))
/-- the slots that a step from a value costs -/
def boutc (g : zG) (R : zRf) (f : zI) (dp : Nat) : Option Nat → Nat
  | none => 0
  | some x => if f x 0 = 7 then bperfc g f R (f (pA g x 1) 1) (dp - 1) else 5
theorem boutc_7 {g : zG} {R : zRf} {f : zI} {dp x : Nat} (h : f x 0 = 7) : boutc g R f dp (some x) = bperfc g f R (f (pA g x 1) 1) (dp - 1) := if_pos h
theorem boutc_o {g : zG} {R : zRf} {f : zI} {dp x : Nat} (h : ¬ f x 0 = 7) : boutc g R f dp (some x) = 5 := if_neg h
/-- what the walk of a step from a value needs -/
def boutV (b0 : Nat) (g : zG) (R : zRf) (f C : zI) (c dp x : Nat) : Prop :=
  (f x 0 = 11 → ∀ a, g.2.2.2 x 4 = some a → bresV g c a) ∧
  (f x 0 = 14 → bfirstV g f c C R (g.2.2.2 x 4) ∧ bfP b0 g (bfirst g f C R (g.2.2.2 x 4)).1) ∧
  (f x 0 = 7 → g.2.2.2 x 1 = some (pA g x 1) ∧ bphV g f c (R 20) (dp - 1)) ∧
  (¬ f x 0 = 11 → ¬ f x 0 = 14 → ¬ f x 0 = 13 → ¬ f x 0 = 7 → g.2.2.2 x 1 = some (pA g x 1) ∧ eOK g c (pA g x 1))
theorem bpopC_r {C : zI} {r : Nat} (h : r ≠ 19) : bpopC C r = C r := by
  unfold bpopC
  split
  · exact zup_r h
  · rfl
theorem CF.out {c : Nat} {g : zG} {R : zRf} {f C : zI} {dp : Nat} {r : Option Nat} (h : CF c R) : CF c (bout g R f C dp r).1.2.1 := by
  cases r with
  | none => exact h
  | some x =>
    unfold bout
    simp only
    repeat' split
    all_goals first
      | exact h
      | exact h.resu
      | exact h.lcl
      | exact h.perf
      | exact h.goat
set_option maxRecDepth 20000 in
set_option maxHeartbeats 400000 in
theorem B_X8_stepOut {l : Launch} {d : Nat} {D : zD} {b0 : Nat} {g : zG} {f C : zI} {R : zRf} {c : Nat} (hW : CW b0 g c) (hF : CF c R) (hw : zOK b0 zNo (gv c g R)) (r : Option Nat) (hr : ∀ b, r = some b → zIn b0 g b 2) (dp : Nat) (hdp : C 19 1 = nI dp) (h100 : dp ≤ 100) (hd1 : r ≠ none → 1 ≤ dp) (ht : iv 61 (C 17 11)) (hV : ∀ x, r = some x → boutV b0 g R f C c dp x) (hd : 5 ≤ d) : zM l d D b0 mX8_stepOut [.ref (c + 13), va_rf r] (gv c g R) (cv c f C) (zCy b0 zNo c g (some (.int (bout g R f C dp r).2)) (bout g R f C dp r).1.1 (bout g R f C dp r).1.2.1 (bout g R f C dp r).1.2.2.1 (bout g R f C dp r).1.2.2.2 (min 4 (boutc g R f dp r / 5)) (boutc g R f dp r)) := by
  refine zM.start zmd_X8_stepOut (Nat.le_of_ble_eq_true rfl) ⟨rfl, zcat_o _, trivial⟩ [some (.ref (c + 13)), some (va_rf r)] rfl ?_
  refine z_aload1 dX8_stepOut_0 ?_
  refine z_ifnonnull (tgt := 6) dX8_stepOut_1 (by decide) (fun a1 c1 => ?_) (fun c1 => ?_)
  · show zS _ _ _ _ _ _ _ 6 _ _ _ _ _
    obtain ⟨x, rfl⟩ : ∃ x, r = some x := ⟨_, c1⟩
    have hx := hr _ rfl
    have hd2 := hd1 (fun h => by cases h)
    have hpd := bpopC_d hdp h100 hd2
    refine z_aload1 dX8_stepOut_6 ?_
    refine zd_getI hW fl_RX8_103 hx (by decide) dX8_stepOut_7 ?_
    refine z_tab dX8_stepOut_10 (by decide +kernel) (by decide +kernel) ?_
    refine ⟨fun c10_0 => ?_, fun nc10_0 => ?_⟩
    · show zS _ _ _ _ _ _ _ 88 _ _ _ _ _
      rw [bout_7 c10_0, boutc_7 c10_0]
      have hv := (hV _ rfl).2.2.1 c10_0
      refine z_aload0 dX8_stepOut_88 ?_
      refine zc_getF (j := 17) hW fl_RX8_24 rfl (by decide) (hF _ (List.mem_of_getElem? (i := 19) rfl)) dX8_stepOut_89 ?_
      refine z_callV zmd_X10_pop rfl (by decide) zl_RX8_209 zin_X10_pop zsel_X10_pop (B_X10_pop (d := d - 1) hW hF hw ) (hW.i 19 rfl) rfl rfl (by omega) rfl dX8_stepOut_92 (fun r1 g1 f1 mc1 ms1 q1 => ?_)
      obtain ⟨rfl, rfl, rfl, hc1, hs1, w1, k1, b1⟩ := q1
      refine z_aload0 dX8_stepOut_95 ?_
      refine z_aload1 dX8_stepOut_96 ?_
      refine zd_getS w1 b1 fl_RX8_108 (hx.le k1) (by decide) (by decide) hv.1 dX8_stepOut_97 (fun i2 => ?_)
      refine zd_getI b1 fl_RX8_111 i2 (by decide) dX8_stepOut_100 ?_
      refine z_callV zmd_X8_perform rfl (by decide) zl_RX8_212 zin_X8_perform zsel_X8_perform (B_X8_perform (d := d - 1) b1 hF w1 _ (dp - 1) hpd (by omega) hv.2 (by omega)) (b1.i 17 rfl) rfl rfl (by omega) rfl dX8_stepOut_103 (fun r3 g3 f3 mc3 ms3 q3 => ?_)
      obtain ⟨rfl, rfl, rfl, hc3, hs3, w3, k3, b3⟩ := q3
      refine z_iconst (v := 1) dX8_stepOut_106 (by decide) ?_
      refine z_iret dX8_stepOut_107 rfl ?_
      exact ⟨rfl, rfl, rfl, by omega, by omega, w3, (k1.tr k3), b3⟩
    refine ⟨fun c10_1 => ?_, fun nc10_1 => ?_⟩
    · show zS _ _ _ _ _ _ _ 108 _ _ _ _ _
      have hn11 : ¬ f x 0 = 11 := by first | exact nc10_4 | (rw [c10_1]; decide) | (rw [c10_2]; decide) | (rw [c10_3]; decide) | (rw [c10_5]; decide)
      have hn14 : ¬ f x 0 = 14 := by first | exact nc10_7 | (rw [c10_1]; decide) | (rw [c10_2]; decide) | (rw [c10_3]; decide) | (rw [c10_5]; decide)
      have hn13 : ¬ f x 0 = 13 := by first | exact nc10_6 | (rw [c10_1]; decide) | (rw [c10_2]; decide) | (rw [c10_3]; decide) | (rw [c10_5]; decide)
      have hn7 : ¬ f x 0 = 7 := by first | exact nc10_0 | (rw [c10_1]; decide) | (rw [c10_2]; decide) | (rw [c10_3]; decide) | (rw [c10_5]; decide)
      have hv := (hV _ rfl).2.2.2 hn11 hn14 hn13 hn7
      rw [bout_d hn11 hn14 hn13 hn7, boutc_o hn7]
      
      refine z_aload0 dX8_stepOut_108 ?_
      refine zc_getF (j := 17) hW fl_RX8_24 rfl (by decide) (hF _ (List.mem_of_getElem? (i := 19) rfl)) dX8_stepOut_109 ?_
      refine z_callV zmd_X10_pop rfl (by decide) zl_RX8_209 zin_X10_pop zsel_X10_pop (B_X10_pop (d := d - 1) hW hF hw ) (hW.i 19 rfl) rfl rfl (by omega) rfl dX8_stepOut_112 (fun r4 g4 f4 mc4 ms4 q4 => ?_)
      obtain ⟨rfl, rfl, rfl, hc4, hs4, w4, k4, b4⟩ := q4
      refine z_aload0 dX8_stepOut_115 ?_
      refine z_aload1 dX8_stepOut_116 ?_
      refine z_aload1 dX8_stepOut_117 ?_
      refine zd_getS w4 b4 fl_RX8_108 (hx.le k4) (by decide) (by decide) hv.1 dX8_stepOut_118 (fun i5 => ?_)
      refine z_callV zmd_X8_goOnAt rfl (by decide) zl_RX8_216 zin_X8_goOnAt zsel_X8_goOnAt (B_X8_goOnAt (d := d - 1) b4 hF w4 _ _ (hx.le k4) hv.1 i5 hv.2 (by rw [hpd]; exact iv_nI (N := 100) (by omega) (by decide)) (by rw [bpopC_r (by decide)]; exact ht) (by omega)) (b4.i 17 rfl) rfl rfl (by omega) rfl dX8_stepOut_121 (fun r6 g6 f6 mc6 ms6 q6 => ?_)
      obtain ⟨rfl, rfl, rfl, hc6, hs6, w6, k6, b6⟩ := q6
      refine z_iconst (v := 1) dX8_stepOut_124 (by decide) ?_
      refine z_iret dX8_stepOut_125 rfl ?_
      exact ⟨rfl, rfl, rfl, by omega, by omega, w6, (k4.tr k6), b6⟩
    refine ⟨fun c10_2 => ?_, fun nc10_2 => ?_⟩
    · show zS _ _ _ _ _ _ _ 108 _ _ _ _ _
      have hn11 : ¬ f x 0 = 11 := by first | exact nc10_4 | (rw [c10_1]; decide) | (rw [c10_2]; decide) | (rw [c10_3]; decide) | (rw [c10_5]; decide)
      have hn14 : ¬ f x 0 = 14 := by first | exact nc10_7 | (rw [c10_1]; decide) | (rw [c10_2]; decide) | (rw [c10_3]; decide) | (rw [c10_5]; decide)
      have hn13 : ¬ f x 0 = 13 := by first | exact nc10_6 | (rw [c10_1]; decide) | (rw [c10_2]; decide) | (rw [c10_3]; decide) | (rw [c10_5]; decide)
      have hn7 : ¬ f x 0 = 7 := by first | exact nc10_0 | (rw [c10_1]; decide) | (rw [c10_2]; decide) | (rw [c10_3]; decide) | (rw [c10_5]; decide)
      have hv := (hV _ rfl).2.2.2 hn11 hn14 hn13 hn7
      rw [bout_d hn11 hn14 hn13 hn7, boutc_o hn7]
      
      refine z_aload0 dX8_stepOut_108 ?_
      refine zc_getF (j := 17) hW fl_RX8_24 rfl (by decide) (hF _ (List.mem_of_getElem? (i := 19) rfl)) dX8_stepOut_109 ?_
      refine z_callV zmd_X10_pop rfl (by decide) zl_RX8_209 zin_X10_pop zsel_X10_pop (B_X10_pop (d := d - 1) hW hF hw ) (hW.i 19 rfl) rfl rfl (by omega) rfl dX8_stepOut_112 (fun r7 g7 f7 mc7 ms7 q7 => ?_)
      obtain ⟨rfl, rfl, rfl, hc7, hs7, w7, k7, b7⟩ := q7
      refine z_aload0 dX8_stepOut_115 ?_
      refine z_aload1 dX8_stepOut_116 ?_
      refine z_aload1 dX8_stepOut_117 ?_
      refine zd_getS w7 b7 fl_RX8_108 (hx.le k7) (by decide) (by decide) hv.1 dX8_stepOut_118 (fun i8 => ?_)
      refine z_callV zmd_X8_goOnAt rfl (by decide) zl_RX8_216 zin_X8_goOnAt zsel_X8_goOnAt (B_X8_goOnAt (d := d - 1) b7 hF w7 _ _ (hx.le k7) hv.1 i8 hv.2 (by rw [hpd]; exact iv_nI (N := 100) (by omega) (by decide)) (by rw [bpopC_r (by decide)]; exact ht) (by omega)) (b7.i 17 rfl) rfl rfl (by omega) rfl dX8_stepOut_121 (fun r9 g9 f9 mc9 ms9 q9 => ?_)
      obtain ⟨rfl, rfl, rfl, hc9, hs9, w9, k9, b9⟩ := q9
      refine z_iconst (v := 1) dX8_stepOut_124 (by decide) ?_
      refine z_iret dX8_stepOut_125 rfl ?_
      exact ⟨rfl, rfl, rfl, by omega, by omega, w9, (k7.tr k9), b9⟩
    refine ⟨fun c10_3 => ?_, fun nc10_3 => ?_⟩
    · show zS _ _ _ _ _ _ _ 108 _ _ _ _ _
      have hn11 : ¬ f x 0 = 11 := by first | exact nc10_4 | (rw [c10_1]; decide) | (rw [c10_2]; decide) | (rw [c10_3]; decide) | (rw [c10_5]; decide)
      have hn14 : ¬ f x 0 = 14 := by first | exact nc10_7 | (rw [c10_1]; decide) | (rw [c10_2]; decide) | (rw [c10_3]; decide) | (rw [c10_5]; decide)
      have hn13 : ¬ f x 0 = 13 := by first | exact nc10_6 | (rw [c10_1]; decide) | (rw [c10_2]; decide) | (rw [c10_3]; decide) | (rw [c10_5]; decide)
      have hn7 : ¬ f x 0 = 7 := by first | exact nc10_0 | (rw [c10_1]; decide) | (rw [c10_2]; decide) | (rw [c10_3]; decide) | (rw [c10_5]; decide)
      have hv := (hV _ rfl).2.2.2 hn11 hn14 hn13 hn7
      rw [bout_d hn11 hn14 hn13 hn7, boutc_o hn7]
      
      refine z_aload0 dX8_stepOut_108 ?_
      refine zc_getF (j := 17) hW fl_RX8_24 rfl (by decide) (hF _ (List.mem_of_getElem? (i := 19) rfl)) dX8_stepOut_109 ?_
      refine z_callV zmd_X10_pop rfl (by decide) zl_RX8_209 zin_X10_pop zsel_X10_pop (B_X10_pop (d := d - 1) hW hF hw ) (hW.i 19 rfl) rfl rfl (by omega) rfl dX8_stepOut_112 (fun r10 g10 f10 mc10 ms10 q10 => ?_)
      obtain ⟨rfl, rfl, rfl, hc10, hs10, w10, k10, b10⟩ := q10
      refine z_aload0 dX8_stepOut_115 ?_
      refine z_aload1 dX8_stepOut_116 ?_
      refine z_aload1 dX8_stepOut_117 ?_
      refine zd_getS w10 b10 fl_RX8_108 (hx.le k10) (by decide) (by decide) hv.1 dX8_stepOut_118 (fun i11 => ?_)
      refine z_callV zmd_X8_goOnAt rfl (by decide) zl_RX8_216 zin_X8_goOnAt zsel_X8_goOnAt (B_X8_goOnAt (d := d - 1) b10 hF w10 _ _ (hx.le k10) hv.1 i11 hv.2 (by rw [hpd]; exact iv_nI (N := 100) (by omega) (by decide)) (by rw [bpopC_r (by decide)]; exact ht) (by omega)) (b10.i 17 rfl) rfl rfl (by omega) rfl dX8_stepOut_121 (fun r12 g12 f12 mc12 ms12 q12 => ?_)
      obtain ⟨rfl, rfl, rfl, hc12, hs12, w12, k12, b12⟩ := q12
      refine z_iconst (v := 1) dX8_stepOut_124 (by decide) ?_
      refine z_iret dX8_stepOut_125 rfl ?_
      exact ⟨rfl, rfl, rfl, by omega, by omega, w12, (k10.tr k12), b12⟩
    refine ⟨fun c10_4 => ?_, fun nc10_4 => ?_⟩
    · show zS _ _ _ _ _ _ _ 56 _ _ _ _ _
      rw [bout_11 c10_4]
      refine z_aload0 dX8_stepOut_56 ?_
      refine z_aload1 dX8_stepOut_57 ?_
      refine zd_getN hw hW fl_RX8_123 hx (by decide) (by decide) dX8_stepOut_58 (fun i13 => ?_)
      refine z_callV zmd_X8_resume rfl (by decide) zl_RX8_202 zin_X8_resume zsel_X8_resume (B_X8_resume (d := d - 1) hW hF hw _ i13 dp hdp h100 hd2 ((hV _ rfl).1 c10_4) (by omega)) (hW.i 17 rfl) rfl rfl (by omega) rfl dX8_stepOut_61 (fun r14 g14 f14 mc14 ms14 q14 => ?_)
      obtain ⟨rfl, rfl, rfl, hc14, hs14, w14, k14, b14⟩ := q14
      refine z_iret dX8_stepOut_64 rfl ?_ (by rcases bresuA_01 g C (g.2.2.2 x 4) with q | q <;> rw [q] <;> rfl)
      exact ⟨rfl, rfl, rfl, by omega, by omega, w14, k14, b14⟩
    refine ⟨fun c10_5 => ?_, fun nc10_5 => ?_⟩
    · show zS _ _ _ _ _ _ _ 108 _ _ _ _ _
      have hn11 : ¬ f x 0 = 11 := by first | exact nc10_4 | (rw [c10_1]; decide) | (rw [c10_2]; decide) | (rw [c10_3]; decide) | (rw [c10_5]; decide)
      have hn14 : ¬ f x 0 = 14 := by first | exact nc10_7 | (rw [c10_1]; decide) | (rw [c10_2]; decide) | (rw [c10_3]; decide) | (rw [c10_5]; decide)
      have hn13 : ¬ f x 0 = 13 := by first | exact nc10_6 | (rw [c10_1]; decide) | (rw [c10_2]; decide) | (rw [c10_3]; decide) | (rw [c10_5]; decide)
      have hn7 : ¬ f x 0 = 7 := by first | exact nc10_0 | (rw [c10_1]; decide) | (rw [c10_2]; decide) | (rw [c10_3]; decide) | (rw [c10_5]; decide)
      have hv := (hV _ rfl).2.2.2 hn11 hn14 hn13 hn7
      rw [bout_d hn11 hn14 hn13 hn7, boutc_o hn7]
      
      refine z_aload0 dX8_stepOut_108 ?_
      refine zc_getF (j := 17) hW fl_RX8_24 rfl (by decide) (hF _ (List.mem_of_getElem? (i := 19) rfl)) dX8_stepOut_109 ?_
      refine z_callV zmd_X10_pop rfl (by decide) zl_RX8_209 zin_X10_pop zsel_X10_pop (B_X10_pop (d := d - 1) hW hF hw ) (hW.i 19 rfl) rfl rfl (by omega) rfl dX8_stepOut_112 (fun r15 g15 f15 mc15 ms15 q15 => ?_)
      obtain ⟨rfl, rfl, rfl, hc15, hs15, w15, k15, b15⟩ := q15
      refine z_aload0 dX8_stepOut_115 ?_
      refine z_aload1 dX8_stepOut_116 ?_
      refine z_aload1 dX8_stepOut_117 ?_
      refine zd_getS w15 b15 fl_RX8_108 (hx.le k15) (by decide) (by decide) hv.1 dX8_stepOut_118 (fun i16 => ?_)
      refine z_callV zmd_X8_goOnAt rfl (by decide) zl_RX8_216 zin_X8_goOnAt zsel_X8_goOnAt (B_X8_goOnAt (d := d - 1) b15 hF w15 _ _ (hx.le k15) hv.1 i16 hv.2 (by rw [hpd]; exact iv_nI (N := 100) (by omega) (by decide)) (by rw [bpopC_r (by decide)]; exact ht) (by omega)) (b15.i 17 rfl) rfl rfl (by omega) rfl dX8_stepOut_121 (fun r17 g17 f17 mc17 ms17 q17 => ?_)
      obtain ⟨rfl, rfl, rfl, hc17, hs17, w17, k17, b17⟩ := q17
      refine z_iconst (v := 1) dX8_stepOut_124 (by decide) ?_
      refine z_iret dX8_stepOut_125 rfl ?_
      exact ⟨rfl, rfl, rfl, by omega, by omega, w17, (k15.tr k17), b17⟩
    refine ⟨fun c10_6 => ?_, fun nc10_6 => ?_⟩
    · show zS _ _ _ _ _ _ _ 71 _ _ _ _ _
      rw [bout_13 c10_6]
      refine z_aload0 dX8_stepOut_71 ?_
      refine zc_getF (j := 17) hW fl_RX8_24 rfl (by decide) (hF _ (List.mem_of_getElem? (i := 19) rfl)) dX8_stepOut_72 ?_
      refine z_callV zmd_X10_pop rfl (by decide) zl_RX8_209 zin_X10_pop zsel_X10_pop (B_X10_pop (d := d - 1) hW hF hw ) (hW.i 19 rfl) rfl rfl (by omega) rfl dX8_stepOut_75 (fun r18 g18 f18 mc18 ms18 q18 => ?_)
      obtain ⟨rfl, rfl, rfl, hc18, hs18, w18, k18, b18⟩ := q18
      refine z_aload0 dX8_stepOut_78 ?_
      refine z_aload1 dX8_stepOut_79 ?_
      refine zd_getI b18 fl_RX8_116 (hx.le k18) (by decide) dX8_stepOut_80 ?_
      refine zc_putI (j := 17) b18 fl_RX8_64 rfl dX8_stepOut_83 ?_
      refine z_iconst (v := 1) dX8_stepOut_86 (by decide) ?_
      refine z_iret dX8_stepOut_87 rfl ?_
      exact ⟨rfl, rfl, rfl, by omega, by omega, w18, k18, b18⟩
    refine ⟨fun c10_7 => ?_, fun nc10_7 => ?_⟩
    · show zS _ _ _ _ _ _ _ 65 _ _ _ _ _
      rw [bout_14 c10_7, boutc_o (by rw [c10_7]; decide)]
      refine z_aload0 dX8_stepOut_65 ?_
      refine z_aload1 dX8_stepOut_66 ?_
      refine z_callV zmd_X8_leaveClause rfl (by decide) zl_RX8_206 zin_X8_leaveClause zsel_X8_leaveClause (B_X8_leaveClause (d := d - 1) hW hF hw _ hx dp hdp h100 ((hV _ rfl).2.1 c10_7).1 ((hV _ rfl).2.1 c10_7).2 (by omega)) (hW.i 17 rfl) rfl rfl (by omega) rfl dX8_stepOut_67 (fun r19 g19 f19 mc19 ms19 q19 => ?_)
      obtain ⟨rfl, rfl, rfl, hc19, hs19, w19, k19, b19⟩ := q19
      refine z_iret dX8_stepOut_70 rfl ?_ (by rcases blclA_01 g R f C x with q | q <;> rw [q] <;> rfl)
      exact ⟨rfl, rfl, rfl, by omega, by omega, w19, k19, b19⟩
    show zS _ _ _ _ _ _ _ 108 _ _ _ _ _
    have hn11 : ¬ f x 0 = 11 := by first | exact nc10_4 | (rw [c10_1]; decide) | (rw [c10_2]; decide) | (rw [c10_3]; decide) | (rw [c10_5]; decide)
    have hn14 : ¬ f x 0 = 14 := by first | exact nc10_7 | (rw [c10_1]; decide) | (rw [c10_2]; decide) | (rw [c10_3]; decide) | (rw [c10_5]; decide)
    have hn13 : ¬ f x 0 = 13 := by first | exact nc10_6 | (rw [c10_1]; decide) | (rw [c10_2]; decide) | (rw [c10_3]; decide) | (rw [c10_5]; decide)
    have hn7 : ¬ f x 0 = 7 := by first | exact nc10_0 | (rw [c10_1]; decide) | (rw [c10_2]; decide) | (rw [c10_3]; decide) | (rw [c10_5]; decide)
    have hv := (hV _ rfl).2.2.2 hn11 hn14 hn13 hn7
    rw [bout_d hn11 hn14 hn13 hn7, boutc_o hn7]
    
    refine z_aload0 dX8_stepOut_108 ?_
    refine zc_getF (j := 17) hW fl_RX8_24 rfl (by decide) (hF _ (List.mem_of_getElem? (i := 19) rfl)) dX8_stepOut_109 ?_
    refine z_callV zmd_X10_pop rfl (by decide) zl_RX8_209 zin_X10_pop zsel_X10_pop (B_X10_pop (d := d - 1) hW hF hw ) (hW.i 19 rfl) rfl rfl (by omega) rfl dX8_stepOut_112 (fun r20 g20 f20 mc20 ms20 q20 => ?_)
    obtain ⟨rfl, rfl, rfl, hc20, hs20, w20, k20, b20⟩ := q20
    refine z_aload0 dX8_stepOut_115 ?_
    refine z_aload1 dX8_stepOut_116 ?_
    refine z_aload1 dX8_stepOut_117 ?_
    refine zd_getS w20 b20 fl_RX8_108 (hx.le k20) (by decide) (by decide) hv.1 dX8_stepOut_118 (fun i21 => ?_)
    refine z_callV zmd_X8_goOnAt rfl (by decide) zl_RX8_216 zin_X8_goOnAt zsel_X8_goOnAt (B_X8_goOnAt (d := d - 1) b20 hF w20 _ _ (hx.le k20) hv.1 i21 hv.2 (by rw [hpd]; exact iv_nI (N := 100) (by omega) (by decide)) (by rw [bpopC_r (by decide)]; exact ht) (by omega)) (b20.i 17 rfl) rfl rfl (by omega) rfl dX8_stepOut_121 (fun r22 g22 f22 mc22 ms22 q22 => ?_)
    obtain ⟨rfl, rfl, rfl, hc22, hs22, w22, k22, b22⟩ := q22
    refine z_iconst (v := 1) dX8_stepOut_124 (by decide) ?_
    refine z_iret dX8_stepOut_125 rfl ?_
    exact ⟨rfl, rfl, rfl, by omega, by omega, w22, (k20.tr k22), b22⟩
  · show zS _ _ _ _ _ _ _ 4 _ _ _ _ _
    subst c1
    refine z_iconst (v := 0) dX8_stepOut_4 (by decide) ?_
    refine z_iret dX8_stepOut_5 rfl ?_
    exact ⟨rfl, rfl, rfl, by omega, by omega, hw, zLe.rf, hW⟩
