/-! The class's run: what the frame of an expression does with the value, over the block. -/
def bg1 (g : zG) (R : zRf) (f C : zI) (x e : Nat) : bSt :=
  (dFr g (some e) ((znG g 2 0).2.2.2 x 2) none, bgoTo (zup R 20 (tn (C 19 1)) (some g.1)) ((dFr g (some e) ((znG g 2 0).2.2.2 x 2) none).2.2.2 e 3) ((dFr g (some e) ((znG g 2 0).2.2.2 x 2) none).2.2.2 x 2), dFrF g f 2 (C 17 6), bpushC C)
def bg3 (g : zG) (R : zRf) (f C : zI) (x e : Nat) : bSt :=
  if C 17 6 = 0 then (g, bgoTo R (g.2.2.2 e 4) (g.2.2.2 x 2), f, C) else (g, bgoTo R (g.2.2.2 e 3) (g.2.2.2 x 2), f, C)
def bg5 (g : zG) (R : zRf) (f C : zI) (x e : Nat) : bSt :=
  (dSc g (bresIn (znG g 9 0) ((znG g 9 0).2.2.2 x 2)) ((znG g 9 0).2.2.2 x 2), bgoTo R (g.2.2.2 e 3) (some g.1), dScF g f (znI g f e 1) (C 17 6), C)
def bg9 (g : zG) (R : zRf) (f C : zI) (x : Nat) : bSt := if bexecd C (f x 3) = 0 then bexe g R f C x else (g, R, f, C)
def bgoat (g : zG) (R : zRf) (f C : zI) (x e : Nat) : bSt :=
  if f x 0 = 1 then bg1 g R f C x e else
  if f x 0 = 2 then (g, R, f, zup C 17 6 (bresult (f e 0) (f x 3) (C 17 6))) else
  if f x 0 = 3 then bg3 g R f C x e else
  if f x 0 = 4 then (g, bgoTo R (g.2.2.2 e 3) (g.2.2.2 x 2), f, C) else
  if f x 0 = 5 then bg5 g R f C x e else
  if f x 0 = 6 then (g, R, f, bemit C) else
  if f x 0 = 9 then bg9 g R f C x else
  if f x 0 = 10 then bcall g R f C (f e 1) else
  if f x 0 = 12 then bleave g R f C e (g.2.2.2 x 2) else (g, R, f, C)
theorem bgoat_1 {g : zG} {R : zRf} {f C : zI} {x e : Nat} (h : f x 0 = 1) : bgoat g R f C x e = bg1 g R f C x e := if_pos h
theorem bgoat_2 {g : zG} {R : zRf} {f C : zI} {x e : Nat} (h : f x 0 = 2) : bgoat g R f C x e = (g, R, f, zup C 17 6 (bresult (f e 0) (f x 3) (C 17 6))) := (if_neg (by rw [h]; decide)).trans (if_pos h)
theorem bgoat_3 {g : zG} {R : zRf} {f C : zI} {x e : Nat} (h : f x 0 = 3) : bgoat g R f C x e = bg3 g R f C x e := (if_neg (by rw [h]; decide)).trans ((if_neg (by rw [h]; decide)).trans (if_pos h))
theorem bgoat_4 {g : zG} {R : zRf} {f C : zI} {x e : Nat} (h : f x 0 = 4) : bgoat g R f C x e = (g, bgoTo R (g.2.2.2 e 3) (g.2.2.2 x 2), f, C) := (if_neg (by rw [h]; decide)).trans ((if_neg (by rw [h]; decide)).trans ((if_neg (by rw [h]; decide)).trans (if_pos h)))
theorem bgoat_5 {g : zG} {R : zRf} {f C : zI} {x e : Nat} (h : f x 0 = 5) : bgoat g R f C x e = bg5 g R f C x e := (if_neg (by rw [h]; decide)).trans ((if_neg (by rw [h]; decide)).trans ((if_neg (by rw [h]; decide)).trans ((if_neg (by rw [h]; decide)).trans (if_pos h))))
theorem bgoat_6 {g : zG} {R : zRf} {f C : zI} {x e : Nat} (h : f x 0 = 6) : bgoat g R f C x e = (g, R, f, bemit C) := (if_neg (by rw [h]; decide)).trans ((if_neg (by rw [h]; decide)).trans ((if_neg (by rw [h]; decide)).trans ((if_neg (by rw [h]; decide)).trans ((if_neg (by rw [h]; decide)).trans (if_pos h)))))
theorem bgoat_9 {g : zG} {R : zRf} {f C : zI} {x e : Nat} (h : f x 0 = 9) : bgoat g R f C x e = bg9 g R f C x := (if_neg (by rw [h]; decide)).trans ((if_neg (by rw [h]; decide)).trans ((if_neg (by rw [h]; decide)).trans ((if_neg (by rw [h]; decide)).trans ((if_neg (by rw [h]; decide)).trans ((if_neg (by rw [h]; decide)).trans (if_pos h))))))
theorem bgoat_10 {g : zG} {R : zRf} {f C : zI} {x e : Nat} (h : f x 0 = 10) : bgoat g R f C x e = bcall g R f C (f e 1) := (if_neg (by rw [h]; decide)).trans ((if_neg (by rw [h]; decide)).trans ((if_neg (by rw [h]; decide)).trans ((if_neg (by rw [h]; decide)).trans ((if_neg (by rw [h]; decide)).trans ((if_neg (by rw [h]; decide)).trans ((if_neg (by rw [h]; decide)).trans (if_pos h)))))))
theorem bgoat_12 {g : zG} {R : zRf} {f C : zI} {x e : Nat} (h : f x 0 = 12) : bgoat g R f C x e = bleave g R f C e (g.2.2.2 x 2) := (if_neg (by rw [h]; decide)).trans ((if_neg (by rw [h]; decide)).trans ((if_neg (by rw [h]; decide)).trans ((if_neg (by rw [h]; decide)).trans ((if_neg (by rw [h]; decide)).trans ((if_neg (by rw [h]; decide)).trans ((if_neg (by rw [h]; decide)).trans ((if_neg (by rw [h]; decide)).trans (if_pos h))))))))
theorem bgoat_7 {g : zG} {R : zRf} {f C : zI} {x e : Nat} (h : f x 0 = 7) : bgoat g R f C x e = (g, R, f, C) := (if_neg (by rw [h]; decide)).trans ((if_neg (by rw [h]; decide)).trans ((if_neg (by rw [h]; decide)).trans ((if_neg (by rw [h]; decide)).trans ((if_neg (by rw [h]; decide)).trans ((if_neg (by rw [h]; decide)).trans ((if_neg (by rw [h]; decide)).trans ((if_neg (by rw [h]; decide)).trans ((if_neg (by rw [h]; decide)).trans (rfl)))))))))
theorem bgoat_8 {g : zG} {R : zRf} {f C : zI} {x e : Nat} (h : f x 0 = 8) : bgoat g R f C x e = (g, R, f, C) := (if_neg (by rw [h]; decide)).trans ((if_neg (by rw [h]; decide)).trans ((if_neg (by rw [h]; decide)).trans ((if_neg (by rw [h]; decide)).trans ((if_neg (by rw [h]; decide)).trans ((if_neg (by rw [h]; decide)).trans ((if_neg (by rw [h]; decide)).trans ((if_neg (by rw [h]; decide)).trans ((if_neg (by rw [h]; decide)).trans (rfl)))))))))
theorem bgoat_11 {g : zG} {R : zRf} {f C : zI} {x e : Nat} (h : f x 0 = 11) : bgoat g R f C x e = (g, R, f, C) := (if_neg (by rw [h]; decide)).trans ((if_neg (by rw [h]; decide)).trans ((if_neg (by rw [h]; decide)).trans ((if_neg (by rw [h]; decide)).trans ((if_neg (by rw [h]; decide)).trans ((if_neg (by rw [h]; decide)).trans ((if_neg (by rw [h]; decide)).trans ((if_neg (by rw [h]; decide)).trans ((if_neg (by rw [h]; decide)).trans (rfl)))))))))
theorem bgoat_d {g : zG} {R : zRf} {f C : zI} {x e : Nat} (h1 : ¬ f x 0 = 1) (h2 : ¬ f x 0 = 2) (h3 : ¬ f x 0 = 3) (h4 : ¬ f x 0 = 4) (h5 : ¬ f x 0 = 5) (h6 : ¬ f x 0 = 6) (h9 : ¬ f x 0 = 9) (h10 : ¬ f x 0 = 10) (h12 : ¬ f x 0 = 12) : bgoat g R f C x e = (g, R, f, C) := (if_neg h1).trans ((if_neg h2).trans ((if_neg h3).trans ((if_neg h4).trans ((if_neg h5).trans ((if_neg h6).trans ((if_neg h9).trans ((if_neg h10).trans ((if_neg h12).trans (rfl)))))))))
theorem CF.goat {c : Nat} {g : zG} {R : zRf} {f C : zI} {x e : Nat} (h : CF c R) : CF c (bgoat g R f C x e).2.1 := by
  unfold bgoat bg1 bg3 bg5 bg9
  repeat' split
  all_goals first
    | exact h
    | exact h.goTo
    | exact h.push.goTo
    | exact h.exe
    | exact h.call
    | exact h.leave
set_option maxRecDepth 20000 in
set_option maxHeartbeats 400000 in
theorem B_X8_goOnAt {l : Launch} {d : Nat} {D : zD} {b0 : Nat} {g : zG} {f C : zI} {R : zRf} {c : Nat} (hW : CW b0 g c) (hF : CF c R) (hw : zOK b0 zNo (gv c g R)) (x e : Nat) (hx : zIn b0 g x 2) (h1 : g.2.2.2 x 1 = some e) (hi : zIn b0 g e 1) (he : eOK g c e) (hdp : iv 100 (C 19 1)) (ht : iv 61 (C 17 11)) (hd : 3 ≤ d) : zM l d D b0 mX8_goOnAt [.ref (c + 13), .ref x, .ref e] (gv c g R) (cv c f C) (zCy b0 zNo c g none (bgoat g R f C x e).1 (bgoat g R f C x e).2.1 (bgoat g R f C x e).2.2.1 (bgoat g R f C x e).2.2.2 1 5) := by
  refine zM.start zmd_X8_goOnAt (Nat.le_of_ble_eq_true rfl) ⟨rfl, rfl, rfl, trivial⟩ [some (.ref (c + 13)), some (.ref x), some (.ref e)] rfl ?_
  refine z_aload1 dX8_goOnAt_0 ?_
  refine zd_getI hW fl_RX8_103 hx (by decide) dX8_goOnAt_1 ?_
  refine z_tab dX8_goOnAt_4 (by decide +kernel) (by decide +kernel) ?_
  refine ⟨fun c4_0 => ?_, fun nc4_0 => ?_⟩
  · show zS _ _ _ _ _ _ _ 68 _ _ _ _ _
    rw [bgoat_1 c4_0]
    refine z_aload0 dX8_goOnAt_68 ?_
    refine zc_getF (j := 17) hW fl_RX8_24 rfl (by decide) (hF _ (List.mem_of_getElem? (i := 19) rfl)) dX8_goOnAt_69 ?_
    refine zd_new hw hW zcls_X2 zc_RX8_104 zi_RX2 zini_RX2 (by decide) dX8_goOnAt_72 (fun w1 k1 b1 i1 => ?_)
    refine z_dup dX8_goOnAt_75 ?_
    refine z_iconst (v := 2) dX8_goOnAt_76 (by decide) ?_
    refine z_aload2 dX8_goOnAt_77 ?_
    refine z_aload1 dX8_goOnAt_78 ?_
    refine zd_getN w1 b1 fl_RX8_220 (hx.le k1) (by decide) (by decide) dX8_goOnAt_79 (fun i2 => ?_)
    refine z_aload0 dX8_goOnAt_82 ?_
    refine zc_getI (j := 17) b1 fl_RX8_64 rfl dX8_goOnAt_83 ?_
    refine z_null dX8_goOnAt_86 ?_
    show zS _ _ _ _ _ _ _ 87 _ _ _ _ _
    refine z_callI zmd_X2_init rfl rfl zl_RX8_169 zin_X2_init (B_X2_init (d := d - 1) b1 w1 _ _ _ (some _) _ none hW.newout i1 (fun b hb => by cases hb; exact (hi.le k1)) i2 (fun b hb => by cases hb) (by omega)) rfl rfl (by omega) rfl dX8_goOnAt_87 (fun r3 g3 f3 mc3 ms3 q3 => ?_)
    obtain ⟨rfl, rfl, rfl, hc3, hs3, w3, k3, b3⟩ := q3
    refine z_callV zmd_X10_push rfl (by decide) zl_RX8_172 zin_X10_push zsel_X10_push (B_X10_push (d := d - 1) b3 hF w3 _ (i1.le k3) hdp (by omega)) (b3.i 19 rfl) rfl rfl (by omega) rfl dX8_goOnAt_90 (fun r4 g4 f4 mc4 ms4 q4 => ?_)
    obtain ⟨rfl, rfl, rfl, hc4, hs4, w4, k4, b4⟩ := q4
    refine z_aload0 dX8_goOnAt_93 ?_
    refine z_aload2 dX8_goOnAt_94 ?_
    refine zd_getN w4 b4 fl_RX8_221 (((hi.le k1).le k3).le k4) (by decide) (by decide) dX8_goOnAt_95 (fun i5 => ?_)
    refine z_aload1 dX8_goOnAt_98 ?_
    refine zd_getN w4 b4 fl_RX8_220 (((hx.le k1).le k3).le k4) (by decide) (by decide) dX8_goOnAt_99 (fun i6 => ?_)
    refine z_callV zmd_X8_goTo rfl (by decide) zl_RX8_89 zin_X8_goTo zsel_X8_goTo (B_X8_goTo (d := d - 1) b4 (hF.push) w4 _ _ i5 i6) (b4.i 17 rfl) rfl rfl (by omega) rfl dX8_goOnAt_102 (fun r7 g7 f7 mc7 ms7 q7 => ?_)
    obtain ⟨rfl, rfl, rfl, hc7, hs7, w7, k7, b7⟩ := q7
    refine z_goto (tgt := 263) dX8_goOnAt_105 (by decide) ?_
    show zS _ _ _ _ _ _ _ 263 _ _ _ _ _
    refine z_ret dX8_goOnAt_263 rfl ?_
    first
      | exact ⟨rfl, rfl, rfl, by omega, by omega, w7, (((k1.tr k3).tr k4).tr k7), b7⟩
      | (rw [show bg9 g R f C x = _ from if_neg c229]; exact ⟨rfl, rfl, rfl, by omega, by omega, w7, (((k1.tr k3).tr k4).tr k7), b7⟩)
      | (rw [bgoat_7 c4_6]; exact ⟨rfl, rfl, rfl, by omega, by omega, w7, (((k1.tr k3).tr k4).tr k7), b7⟩)
      | (rw [bgoat_8 c4_7]; exact ⟨rfl, rfl, rfl, by omega, by omega, w7, (((k1.tr k3).tr k4).tr k7), b7⟩)
      | (rw [bgoat_11 c4_10]; exact ⟨rfl, rfl, rfl, by omega, by omega, w7, (((k1.tr k3).tr k4).tr k7), b7⟩)
      | (rw [bgoat_d nc4_0 nc4_1 nc4_2 nc4_3 nc4_4 nc4_5 nc4_8 nc4_9 nc4_11]; exact ⟨rfl, rfl, rfl, by omega, by omega, w7, (((k1.tr k3).tr k4).tr k7), b7⟩)
  refine ⟨fun c4_1 => ?_, fun nc4_1 => ?_⟩
  · show zS _ _ _ _ _ _ _ 108 _ _ _ _ _
    rw [bgoat_2 c4_1]
    refine z_aload0 dX8_goOnAt_108 ?_
    refine z_aload2 dX8_goOnAt_109 ?_
    refine zd_getI hW fl_RX8_176 hi (by decide) dX8_goOnAt_110 ?_
    refine z_aload1 dX8_goOnAt_113 ?_
    refine zd_getI hW fl_RX8_116 hx (by decide) dX8_goOnAt_114 ?_
    refine z_aload0 dX8_goOnAt_117 ?_
    refine zc_getI (j := 17) hW fl_RX8_64 rfl dX8_goOnAt_118 ?_
    refine z_callSi zmd_X8_resultOf zl_RX8_224 zst_X8_resultOf (K_X8_resultOf (d := d - 1) _ _ _) rfl rfl (by omega) rfl dX8_goOnAt_121 ?_
    refine zc_putI (j := 17) hW fl_RX8_64 rfl dX8_goOnAt_124 ?_
    refine z_goto (tgt := 263) dX8_goOnAt_127 (by decide) ?_
    show zS _ _ _ _ _ _ _ 263 _ _ _ _ _
    refine z_ret dX8_goOnAt_263 rfl ?_
    first
      | exact ⟨rfl, rfl, rfl, by omega, by omega, hw, zLe.rf, hW⟩
      | (rw [show bg9 g R f C x = _ from if_neg c229]; exact ⟨rfl, rfl, rfl, by omega, by omega, hw, zLe.rf, hW⟩)
      | (rw [bgoat_7 c4_6]; exact ⟨rfl, rfl, rfl, by omega, by omega, hw, zLe.rf, hW⟩)
      | (rw [bgoat_8 c4_7]; exact ⟨rfl, rfl, rfl, by omega, by omega, hw, zLe.rf, hW⟩)
      | (rw [bgoat_11 c4_10]; exact ⟨rfl, rfl, rfl, by omega, by omega, hw, zLe.rf, hW⟩)
      | (rw [bgoat_d nc4_0 nc4_1 nc4_2 nc4_3 nc4_4 nc4_5 nc4_8 nc4_9 nc4_11]; exact ⟨rfl, rfl, rfl, by omega, by omega, hw, zLe.rf, hW⟩)
  refine ⟨fun c4_2 => ?_, fun nc4_2 => ?_⟩
  · show zS _ _ _ _ _ _ _ 130 _ _ _ _ _
    rw [bgoat_3 c4_2]
    refine z_aload0 dX8_goOnAt_130 ?_
    refine z_aload0 dX8_goOnAt_131 ?_
    refine zc_getI (j := 17) hW fl_RX8_64 rfl dX8_goOnAt_132 ?_
    refine z_if_eq (tgt := 145) dX8_goOnAt_135 (by decide) (fun c135 => ?_) (fun c135 => ?_)
    · show zS _ _ _ _ _ _ _ 145 _ _ _ _ _
      rw [show bg3 g R f C x e = _ from if_pos c135]
      refine z_aload2 dX8_goOnAt_145 ?_
      refine zd_getN hw hW fl_RX8_228 hi (by decide) (by decide) dX8_goOnAt_146 (fun i9 => ?_)
      refine z_aload1 dX8_goOnAt_149 ?_
      refine zd_getN hw hW fl_RX8_220 hx (by decide) (by decide) dX8_goOnAt_150 (fun i10 => ?_)
      refine z_callV zmd_X8_goTo rfl (by decide) zl_RX8_89 zin_X8_goTo zsel_X8_goTo (B_X8_goTo (d := d - 1) hW hF hw _ _ i9 i10) (hW.i 17 rfl) rfl rfl (by omega) rfl dX8_goOnAt_153 (fun r11 g11 f11 mc11 ms11 q11 => ?_)
      obtain ⟨rfl, rfl, rfl, hc11, hs11, w11, k11, b11⟩ := q11
      refine z_goto (tgt := 263) dX8_goOnAt_156 (by decide) ?_
      show zS _ _ _ _ _ _ _ 263 _ _ _ _ _
      refine z_ret dX8_goOnAt_263 rfl ?_
      first
        | exact ⟨rfl, rfl, rfl, by omega, by omega, w11, k11, b11⟩
        | (rw [show bg9 g R f C x = _ from if_neg c229]; exact ⟨rfl, rfl, rfl, by omega, by omega, w11, k11, b11⟩)
        | (rw [bgoat_7 c4_6]; exact ⟨rfl, rfl, rfl, by omega, by omega, w11, k11, b11⟩)
        | (rw [bgoat_8 c4_7]; exact ⟨rfl, rfl, rfl, by omega, by omega, w11, k11, b11⟩)
        | (rw [bgoat_11 c4_10]; exact ⟨rfl, rfl, rfl, by omega, by omega, w11, k11, b11⟩)
        | (rw [bgoat_d nc4_0 nc4_1 nc4_2 nc4_3 nc4_4 nc4_5 nc4_8 nc4_9 nc4_11]; exact ⟨rfl, rfl, rfl, by omega, by omega, w11, k11, b11⟩)
    · show zS _ _ _ _ _ _ _ 138 _ _ _ _ _
      rw [show bg3 g R f C x e = _ from if_neg c135]
      refine z_aload2 dX8_goOnAt_138 ?_
      refine zd_getN hw hW fl_RX8_221 hi (by decide) (by decide) dX8_goOnAt_139 (fun i12 => ?_)
      refine z_goto (tgt := 149) dX8_goOnAt_142 (by decide) ?_
      show zS _ _ _ _ _ _ _ 149 _ _ _ _ _
      refine z_aload1 dX8_goOnAt_149 ?_
      refine zd_getN hw hW fl_RX8_220 hx (by decide) (by decide) dX8_goOnAt_150 (fun i13 => ?_)
      refine z_callV zmd_X8_goTo rfl (by decide) zl_RX8_89 zin_X8_goTo zsel_X8_goTo (B_X8_goTo (d := d - 1) hW hF hw _ _ i12 i13) (hW.i 17 rfl) rfl rfl (by omega) rfl dX8_goOnAt_153 (fun r14 g14 f14 mc14 ms14 q14 => ?_)
      obtain ⟨rfl, rfl, rfl, hc14, hs14, w14, k14, b14⟩ := q14
      refine z_goto (tgt := 263) dX8_goOnAt_156 (by decide) ?_
      show zS _ _ _ _ _ _ _ 263 _ _ _ _ _
      refine z_ret dX8_goOnAt_263 rfl ?_
      first
        | exact ⟨rfl, rfl, rfl, by omega, by omega, w14, k14, b14⟩
        | (rw [show bg9 g R f C x = _ from if_neg c229]; exact ⟨rfl, rfl, rfl, by omega, by omega, w14, k14, b14⟩)
        | (rw [bgoat_7 c4_6]; exact ⟨rfl, rfl, rfl, by omega, by omega, w14, k14, b14⟩)
        | (rw [bgoat_8 c4_7]; exact ⟨rfl, rfl, rfl, by omega, by omega, w14, k14, b14⟩)
        | (rw [bgoat_11 c4_10]; exact ⟨rfl, rfl, rfl, by omega, by omega, w14, k14, b14⟩)
        | (rw [bgoat_d nc4_0 nc4_1 nc4_2 nc4_3 nc4_4 nc4_5 nc4_8 nc4_9 nc4_11]; exact ⟨rfl, rfl, rfl, by omega, by omega, w14, k14, b14⟩)
  refine ⟨fun c4_3 => ?_, fun nc4_3 => ?_⟩
  · show zS _ _ _ _ _ _ _ 159 _ _ _ _ _
    rw [bgoat_4 c4_3]
    refine z_aload0 dX8_goOnAt_159 ?_
    refine z_aload2 dX8_goOnAt_160 ?_
    refine zd_getN hw hW fl_RX8_221 hi (by decide) (by decide) dX8_goOnAt_161 (fun i15 => ?_)
    refine z_aload1 dX8_goOnAt_164 ?_
    refine zd_getN hw hW fl_RX8_220 hx (by decide) (by decide) dX8_goOnAt_165 (fun i16 => ?_)
    refine z_callV zmd_X8_goTo rfl (by decide) zl_RX8_89 zin_X8_goTo zsel_X8_goTo (B_X8_goTo (d := d - 1) hW hF hw _ _ i15 i16) (hW.i 17 rfl) rfl rfl (by omega) rfl dX8_goOnAt_168 (fun r17 g17 f17 mc17 ms17 q17 => ?_)
    obtain ⟨rfl, rfl, rfl, hc17, hs17, w17, k17, b17⟩ := q17
    refine z_goto (tgt := 263) dX8_goOnAt_171 (by decide) ?_
    show zS _ _ _ _ _ _ _ 263 _ _ _ _ _
    refine z_ret dX8_goOnAt_263 rfl ?_
    first
      | exact ⟨rfl, rfl, rfl, by omega, by omega, w17, k17, b17⟩
      | (rw [show bg9 g R f C x = _ from if_neg c229]; exact ⟨rfl, rfl, rfl, by omega, by omega, w17, k17, b17⟩)
      | (rw [bgoat_7 c4_6]; exact ⟨rfl, rfl, rfl, by omega, by omega, w17, k17, b17⟩)
      | (rw [bgoat_8 c4_7]; exact ⟨rfl, rfl, rfl, by omega, by omega, w17, k17, b17⟩)
      | (rw [bgoat_11 c4_10]; exact ⟨rfl, rfl, rfl, by omega, by omega, w17, k17, b17⟩)
      | (rw [bgoat_d nc4_0 nc4_1 nc4_2 nc4_3 nc4_4 nc4_5 nc4_8 nc4_9 nc4_11]; exact ⟨rfl, rfl, rfl, by omega, by omega, w17, k17, b17⟩)
  refine ⟨fun c4_4 => ?_, fun nc4_4 => ?_⟩
  · show zS _ _ _ _ _ _ _ 174 _ _ _ _ _
    rw [bgoat_5 c4_4]
    refine z_aload0 dX8_goOnAt_174 ?_
    refine z_aload2 dX8_goOnAt_175 ?_
    refine zd_getN hw hW fl_RX8_221 hi (by decide) (by decide) dX8_goOnAt_176 (fun i18 => ?_)
    refine zd_new hw hW zcls_X9 zc_RX8_180 zi_RX9 zini_RX9 (by decide) dX8_goOnAt_179 (fun w19 k19 b19 i19 => ?_)
    refine z_dup dX8_goOnAt_182 ?_
    refine z_aload2 dX8_goOnAt_183 ?_
    refine zd_getI b19 fl_RX8_111 (hi.le k19) (by decide) dX8_goOnAt_184 ?_
    refine z_aload0 dX8_goOnAt_187 ?_
    refine zc_getI (j := 17) b19 fl_RX8_64 rfl dX8_goOnAt_188 ?_
    refine z_aload1 dX8_goOnAt_191 ?_
    refine zd_getN w19 b19 fl_RX8_220 (hx.le k19) (by decide) (by decide) dX8_goOnAt_192 (fun i20 => ?_)
    show zS _ _ _ _ _ _ _ 195 _ _ _ _ _
    refine z_callS zmd_X9_resumptionIn zl_RX8_195 zst_X9_resumptionIn (B_X9_resumptionIn (d := d - 1) b19 hF w19 _ i20) rfl rfl (by omega) rfl dX8_goOnAt_195 (fun r21 g21 f21 mc21 ms21 q21 => ?_) (by simp [zcat_o] <;> simp [Value.category])
    obtain ⟨rfl, rfl, rfl, rfl, rfl⟩ := q21
    refine z_aload1 dX8_goOnAt_198 ?_
    refine zd_getN w19 b19 fl_RX8_220 (hx.le k19) (by decide) (by decide) dX8_goOnAt_199 (fun i22 => ?_)
    refine z_callI zmd_X9_init rfl rfl zl_RX8_231 zin_X9_init (B_X9_init (d := d - 1) b19 w19 _ _ _ _ _ hW.newout i19 (fun b hb => bresIn_in w19 b19 i20 b hb) i22 (by omega)) rfl rfl (by omega) rfl dX8_goOnAt_202 (fun r23 g23 f23 mc23 ms23 q23 => ?_) (by simp [zcat_o] <;> simp [Value.category])
    obtain ⟨rfl, rfl, rfl, hc23, hs23, w23, k23, b23⟩ := q23
    refine z_callV zmd_X8_goTo rfl (by decide) zl_RX8_89 zin_X8_goTo zsel_X8_goTo (B_X8_goTo (d := d - 1) b23 hF w23 _ (some _) (fun b hb => ((fun b hb => (i18 b hb).le k19) b hb).le k23) (fun b hb => by cases hb; exact (i19.le k23))) (b23.i 17 rfl) rfl rfl (by omega) rfl dX8_goOnAt_205 (fun r24 g24 f24 mc24 ms24 q24 => ?_)
    obtain ⟨rfl, rfl, rfl, hc24, hs24, w24, k24, b24⟩ := q24
    refine z_goto (tgt := 263) dX8_goOnAt_208 (by decide) ?_
    show zS _ _ _ _ _ _ _ 263 _ _ _ _ _
    refine z_ret dX8_goOnAt_263 rfl ?_
    first
      | exact ⟨rfl, rfl, rfl, by omega, by omega, w24, ((k19.tr k23).tr k24), b24⟩
      | (rw [show bg9 g R f C x = _ from if_neg c229]; exact ⟨rfl, rfl, rfl, by omega, by omega, w24, ((k19.tr k23).tr k24), b24⟩)
      | (rw [bgoat_7 c4_6]; exact ⟨rfl, rfl, rfl, by omega, by omega, w24, ((k19.tr k23).tr k24), b24⟩)
      | (rw [bgoat_8 c4_7]; exact ⟨rfl, rfl, rfl, by omega, by omega, w24, ((k19.tr k23).tr k24), b24⟩)
      | (rw [bgoat_11 c4_10]; exact ⟨rfl, rfl, rfl, by omega, by omega, w24, ((k19.tr k23).tr k24), b24⟩)
      | (rw [bgoat_d nc4_0 nc4_1 nc4_2 nc4_3 nc4_4 nc4_5 nc4_8 nc4_9 nc4_11]; exact ⟨rfl, rfl, rfl, by omega, by omega, w24, ((k19.tr k23).tr k24), b24⟩)
  refine ⟨fun c4_5 => ?_, fun nc4_5 => ?_⟩
  · show zS _ _ _ _ _ _ _ 211 _ _ _ _ _
    rw [bgoat_6 c4_5]
    refine z_aload0 dX8_goOnAt_211 ?_
    refine z_callV zmd_X8_emit rfl (by decide) zl_RX8_234 zin_X8_emit zsel_X8_emit (B_X8_emit (d := d - 1) hW hF hw ht) (hW.i 17 rfl) rfl rfl (by omega) rfl dX8_goOnAt_212 (fun r25 g25 f25 mc25 ms25 q25 => ?_)
    obtain ⟨rfl, rfl, rfl, hc25, hs25, w25, k25, b25⟩ := q25
    refine z_goto (tgt := 263) dX8_goOnAt_215 (by decide) ?_
    show zS _ _ _ _ _ _ _ 263 _ _ _ _ _
    refine z_ret dX8_goOnAt_263 rfl ?_
    first
      | exact ⟨rfl, rfl, rfl, by omega, by omega, w25, k25, b25⟩
      | (rw [show bg9 g R f C x = _ from if_neg c229]; exact ⟨rfl, rfl, rfl, by omega, by omega, w25, k25, b25⟩)
      | (rw [bgoat_7 c4_6]; exact ⟨rfl, rfl, rfl, by omega, by omega, w25, k25, b25⟩)
      | (rw [bgoat_8 c4_7]; exact ⟨rfl, rfl, rfl, by omega, by omega, w25, k25, b25⟩)
      | (rw [bgoat_11 c4_10]; exact ⟨rfl, rfl, rfl, by omega, by omega, w25, k25, b25⟩)
      | (rw [bgoat_d nc4_0 nc4_1 nc4_2 nc4_3 nc4_4 nc4_5 nc4_8 nc4_9 nc4_11]; exact ⟨rfl, rfl, rfl, by omega, by omega, w25, k25, b25⟩)
  refine ⟨fun c4_6 => ?_, fun nc4_6 => ?_⟩
  · show zS _ _ _ _ _ _ _ 263 _ _ _ _ _
    refine z_ret dX8_goOnAt_263 rfl ?_
    first
      | exact ⟨rfl, rfl, rfl, by omega, by omega, hw, zLe.rf, hW⟩
      | (rw [show bg9 g R f C x = _ from if_neg c229]; exact ⟨rfl, rfl, rfl, by omega, by omega, hw, zLe.rf, hW⟩)
      | (rw [bgoat_7 c4_6]; exact ⟨rfl, rfl, rfl, by omega, by omega, hw, zLe.rf, hW⟩)
      | (rw [bgoat_8 c4_7]; exact ⟨rfl, rfl, rfl, by omega, by omega, hw, zLe.rf, hW⟩)
      | (rw [bgoat_11 c4_10]; exact ⟨rfl, rfl, rfl, by omega, by omega, hw, zLe.rf, hW⟩)
      | (rw [bgoat_d nc4_0 nc4_1 nc4_2 nc4_3 nc4_4 nc4_5 nc4_8 nc4_9 nc4_11]; exact ⟨rfl, rfl, rfl, by omega, by omega, hw, zLe.rf, hW⟩)
  refine ⟨fun c4_7 => ?_, fun nc4_7 => ?_⟩
  · show zS _ _ _ _ _ _ _ 263 _ _ _ _ _
    refine z_ret dX8_goOnAt_263 rfl ?_
    first
      | exact ⟨rfl, rfl, rfl, by omega, by omega, hw, zLe.rf, hW⟩
      | (rw [show bg9 g R f C x = _ from if_neg c229]; exact ⟨rfl, rfl, rfl, by omega, by omega, hw, zLe.rf, hW⟩)
      | (rw [bgoat_7 c4_6]; exact ⟨rfl, rfl, rfl, by omega, by omega, hw, zLe.rf, hW⟩)
      | (rw [bgoat_8 c4_7]; exact ⟨rfl, rfl, rfl, by omega, by omega, hw, zLe.rf, hW⟩)
      | (rw [bgoat_11 c4_10]; exact ⟨rfl, rfl, rfl, by omega, by omega, hw, zLe.rf, hW⟩)
      | (rw [bgoat_d nc4_0 nc4_1 nc4_2 nc4_3 nc4_4 nc4_5 nc4_8 nc4_9 nc4_11]; exact ⟨rfl, rfl, rfl, by omega, by omega, hw, zLe.rf, hW⟩)
  refine ⟨fun c4_8 => ?_, fun nc4_8 => ?_⟩
  · show zS _ _ _ _ _ _ _ 218 _ _ _ _ _
    rw [bgoat_9 c4_8]
    refine z_aload0 dX8_goOnAt_218 ?_
    refine zc_getF (j := 17) hW fl_RX8_31 rfl (by decide) (hF _ (List.mem_of_getElem? (i := 20) rfl)) dX8_goOnAt_219 ?_
    refine z_aload1 dX8_goOnAt_222 ?_
    refine zd_getI hW fl_RX8_116 hx (by decide) dX8_goOnAt_223 ?_
    refine z_callVi zmd_X3_executed rfl (by decide) zl_RX8_131 zin_X3_executed zsel_X3_executed (B_X3_executed (d := d - 1) hW hF hw _ (by omega)) (hW.i 21 rfl) rfl rfl (by omega) rfl dX8_goOnAt_226 ?_
    refine z_if_ne (tgt := 263) dX8_goOnAt_229 (by decide) (fun c229 => ?_) (fun c229 => ?_)
    · show zS _ _ _ _ _ _ _ 263 _ _ _ _ _
      refine z_ret dX8_goOnAt_263 rfl ?_
      first
        | exact ⟨rfl, rfl, rfl, by omega, by omega, hw, zLe.rf, hW⟩
        | (rw [show bg9 g R f C x = _ from if_neg c229]; exact ⟨rfl, rfl, rfl, by omega, by omega, hw, zLe.rf, hW⟩)
        | (rw [bgoat_7 c4_6]; exact ⟨rfl, rfl, rfl, by omega, by omega, hw, zLe.rf, hW⟩)
        | (rw [bgoat_8 c4_7]; exact ⟨rfl, rfl, rfl, by omega, by omega, hw, zLe.rf, hW⟩)
        | (rw [bgoat_11 c4_10]; exact ⟨rfl, rfl, rfl, by omega, by omega, hw, zLe.rf, hW⟩)
        | (rw [bgoat_d nc4_0 nc4_1 nc4_2 nc4_3 nc4_4 nc4_5 nc4_8 nc4_9 nc4_11]; exact ⟨rfl, rfl, rfl, by omega, by omega, hw, zLe.rf, hW⟩)
    · show zS _ _ _ _ _ _ _ 232 _ _ _ _ _
      rw [show bg9 g R f C x = _ from if_pos c229]
      refine z_aload0 dX8_goOnAt_232 ?_
      refine z_aload1 dX8_goOnAt_233 ?_
      refine z_callV zmd_X8_execute rfl (by decide) zl_RX8_237 zin_X8_execute zsel_X8_execute (B_X8_execute (d := d - 1) hW hF hw _ hx (by rw [show pA g x 1 = e from by unfold pA; rw [h1]; rfl]; exact h1) hdp (by omega)) (hW.i 17 rfl) rfl rfl (by omega) rfl dX8_goOnAt_234 (fun r27 g27 f27 mc27 ms27 q27 => ?_)
      obtain ⟨rfl, rfl, rfl, hc27, hs27, w27, k27, b27⟩ := q27
      refine z_goto (tgt := 263) dX8_goOnAt_237 (by decide) ?_
      show zS _ _ _ _ _ _ _ 263 _ _ _ _ _
      refine z_ret dX8_goOnAt_263 rfl ?_
      first
        | exact ⟨rfl, rfl, rfl, by omega, by omega, w27, k27, b27⟩
        | (rw [show bg9 g R f C x = _ from if_neg c229]; exact ⟨rfl, rfl, rfl, by omega, by omega, w27, k27, b27⟩)
        | (rw [bgoat_7 c4_6]; exact ⟨rfl, rfl, rfl, by omega, by omega, w27, k27, b27⟩)
        | (rw [bgoat_8 c4_7]; exact ⟨rfl, rfl, rfl, by omega, by omega, w27, k27, b27⟩)
        | (rw [bgoat_11 c4_10]; exact ⟨rfl, rfl, rfl, by omega, by omega, w27, k27, b27⟩)
        | (rw [bgoat_d nc4_0 nc4_1 nc4_2 nc4_3 nc4_4 nc4_5 nc4_8 nc4_9 nc4_11]; exact ⟨rfl, rfl, rfl, by omega, by omega, w27, k27, b27⟩)
  refine ⟨fun c4_9 => ?_, fun nc4_9 => ?_⟩
  · show zS _ _ _ _ _ _ _ 240 _ _ _ _ _
    rw [bgoat_10 c4_9]
    refine z_aload0 dX8_goOnAt_240 ?_
    refine z_aload2 dX8_goOnAt_241 ?_
    refine zd_getI hW fl_RX8_111 hi (by decide) dX8_goOnAt_242 ?_
    refine z_callV zmd_X8_call rfl (by decide) zl_RX8_240 zin_X8_call zsel_X8_call (B_X8_call (d := d - 1) hW hF hw _ (by omega)) (hW.i 17 rfl) rfl rfl (by omega) rfl dX8_goOnAt_245 (fun r28 g28 f28 mc28 ms28 q28 => ?_)
    obtain ⟨rfl, rfl, rfl, hc28, hs28, w28, k28, b28⟩ := q28
    refine z_goto (tgt := 263) dX8_goOnAt_248 (by decide) ?_
    show zS _ _ _ _ _ _ _ 263 _ _ _ _ _
    refine z_ret dX8_goOnAt_263 rfl ?_
    first
      | exact ⟨rfl, rfl, rfl, by omega, by omega, w28, k28, b28⟩
      | (rw [show bg9 g R f C x = _ from if_neg c229]; exact ⟨rfl, rfl, rfl, by omega, by omega, w28, k28, b28⟩)
      | (rw [bgoat_7 c4_6]; exact ⟨rfl, rfl, rfl, by omega, by omega, w28, k28, b28⟩)
      | (rw [bgoat_8 c4_7]; exact ⟨rfl, rfl, rfl, by omega, by omega, w28, k28, b28⟩)
      | (rw [bgoat_11 c4_10]; exact ⟨rfl, rfl, rfl, by omega, by omega, w28, k28, b28⟩)
      | (rw [bgoat_d nc4_0 nc4_1 nc4_2 nc4_3 nc4_4 nc4_5 nc4_8 nc4_9 nc4_11]; exact ⟨rfl, rfl, rfl, by omega, by omega, w28, k28, b28⟩)
  refine ⟨fun c4_10 => ?_, fun nc4_10 => ?_⟩
  · show zS _ _ _ _ _ _ _ 263 _ _ _ _ _
    refine z_ret dX8_goOnAt_263 rfl ?_
    first
      | exact ⟨rfl, rfl, rfl, by omega, by omega, hw, zLe.rf, hW⟩
      | (rw [show bg9 g R f C x = _ from if_neg c229]; exact ⟨rfl, rfl, rfl, by omega, by omega, hw, zLe.rf, hW⟩)
      | (rw [bgoat_7 c4_6]; exact ⟨rfl, rfl, rfl, by omega, by omega, hw, zLe.rf, hW⟩)
      | (rw [bgoat_8 c4_7]; exact ⟨rfl, rfl, rfl, by omega, by omega, hw, zLe.rf, hW⟩)
      | (rw [bgoat_11 c4_10]; exact ⟨rfl, rfl, rfl, by omega, by omega, hw, zLe.rf, hW⟩)
      | (rw [bgoat_d nc4_0 nc4_1 nc4_2 nc4_3 nc4_4 nc4_5 nc4_8 nc4_9 nc4_11]; exact ⟨rfl, rfl, rfl, by omega, by omega, hw, zLe.rf, hW⟩)
  refine ⟨fun c4_11 => ?_, fun nc4_11 => ?_⟩
  · show zS _ _ _ _ _ _ _ 251 _ _ _ _ _
    rw [bgoat_12 c4_11]
    refine z_aload0 dX8_goOnAt_251 ?_
    refine z_aload2 dX8_goOnAt_252 ?_
    refine z_aload1 dX8_goOnAt_253 ?_
    refine zd_getN hw hW fl_RX8_220 hx (by decide) (by decide) dX8_goOnAt_254 (fun i29 => ?_)
    refine z_callV zmd_X8_leaveHandler rfl (by decide) zl_RX8_243 zin_X8_leaveHandler zsel_X8_leaveHandler (B_X8_leaveHandler (d := d - 1) hW hF hw _ _ hi he i29 (by omega)) (hW.i 17 rfl) rfl rfl (by omega) rfl dX8_goOnAt_257 (fun r30 g30 f30 mc30 ms30 q30 => ?_)
    obtain ⟨rfl, rfl, rfl, hc30, hs30, w30, k30, b30⟩ := q30
    refine z_goto (tgt := 263) dX8_goOnAt_260 (by decide) ?_
    show zS _ _ _ _ _ _ _ 263 _ _ _ _ _
    refine z_ret dX8_goOnAt_263 rfl ?_
    first
      | exact ⟨rfl, rfl, rfl, by omega, by omega, w30, k30, b30⟩
      | (rw [show bg9 g R f C x = _ from if_neg c229]; exact ⟨rfl, rfl, rfl, by omega, by omega, w30, k30, b30⟩)
      | (rw [bgoat_7 c4_6]; exact ⟨rfl, rfl, rfl, by omega, by omega, w30, k30, b30⟩)
      | (rw [bgoat_8 c4_7]; exact ⟨rfl, rfl, rfl, by omega, by omega, w30, k30, b30⟩)
      | (rw [bgoat_11 c4_10]; exact ⟨rfl, rfl, rfl, by omega, by omega, w30, k30, b30⟩)
      | (rw [bgoat_d nc4_0 nc4_1 nc4_2 nc4_3 nc4_4 nc4_5 nc4_8 nc4_9 nc4_11]; exact ⟨rfl, rfl, rfl, by omega, by omega, w30, k30, b30⟩)
  show zS _ _ _ _ _ _ _ 263 _ _ _ _ _
  refine z_ret dX8_goOnAt_263 rfl ?_
  first
    | exact ⟨rfl, rfl, rfl, by omega, by omega, hw, zLe.rf, hW⟩
    | (rw [show bg9 g R f C x = _ from if_neg c229]; exact ⟨rfl, rfl, rfl, by omega, by omega, hw, zLe.rf, hW⟩)
    | (rw [bgoat_7 c4_6]; exact ⟨rfl, rfl, rfl, by omega, by omega, hw, zLe.rf, hW⟩)
    | (rw [bgoat_8 c4_7]; exact ⟨rfl, rfl, rfl, by omega, by omega, hw, zLe.rf, hW⟩)
    | (rw [bgoat_11 c4_10]; exact ⟨rfl, rfl, rfl, by omega, by omega, hw, zLe.rf, hW⟩)
    | (rw [bgoat_d nc4_0 nc4_1 nc4_2 nc4_3 nc4_4 nc4_5 nc4_8 nc4_9 nc4_11]; exact ⟨rfl, rfl, rfl, by omega, by omega, hw, zLe.rf, hW⟩)
