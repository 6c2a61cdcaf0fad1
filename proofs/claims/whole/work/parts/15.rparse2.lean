/-! The reference's reading of clauses and of a whole text. -/
def pbc1 (M : zI) : Int32 := if phere M = 58 then 6 else phere M - 65
/-- where a clause begins: what it is for may stand there -/
def pbcOk (M : zI) (h : Int32) : Prop := (phere M = 58 ∨ ¬ (phere M - 65 < 0 ∨ 5 < phere M - 65)) ∧ pclause M h (pbc1 M) = -9
def pbcC (N : zI) (h w a : Int32) : zI :=
  let c := N 0 1
  let M1 := pmake N 16 a
  let M2 := zup M1 1 (5 * tn c + 3) (M1 1 (5 * tn h + 3))
  let M3 := zup M2 1 (5 * tn c + 4) w
  zup M3 1 (5 * tn h + 3) c
def pbcD (N : zI) (h w a : Int32) (r : Prop) [Decidable r] : zI :=
  penter (pbcC N h w a) (N 0 1) (pbcC N h w a 9 (tn (pbcC N h w a 0 13) - 1) ||| (1 <<< (a &&& 31))) (if r then pbcC N h w a 10 (tn (pbcC N h w a 0 13) - 1) else h + 1)
def pbclause (M : zI) (h : Int32) : zI :=
  if (phere M = 58 ∨ ¬ (phere M - 65 < 0 ∨ 5 < phere M - 65)) ∧ pclause M h (pbc1 M) = -9 then
    (let q := ptake (patn M) 97 122; if q.2 0 15 = -9 then pbcD q.2 h (pbc1 M) q.1 (phere M = 58) else q.2)
  else pfails M
def pbclauseV (M : zI) (h : Int32) : Prop := pat M ∧ iv 65000 h ∧ pclOk M h ∧ iv 65000 (M 0 1) ∧ (iv 130 (M 0 13) ∧ 0 < tn (M 0 13))
theorem pbcC_0 {N : zI} {h w a : Int32} {c : Nat} (k1 : c ≠ 1) (k2 : c ≠ 16) : pbcC N h w a 0 c = N 0 c := by
  unfold pbcC
  rw [zup_r (show (0 : Nat) ≠ 1 by decide), zup_r (show (0 : Nat) ≠ 1 by decide), zup_r (show (0 : Nat) ≠ 1 by decide), pmake_0 k1 k2]
set_option maxRecDepth 20000 in
theorem Rt_X12_beginClause_t {l : Launch} {d : Nat} {D : zD} {b0 : Nat} {g : zG} {f M : zI} {o : Nat} (hW : RW b0 g o) (h w a : Int32) (hh : iv 65000 h) (hN : iv 65000 (M 0 1)) (hO : iv 130 (M 0 13)) (hO0 : 0 < tn (M 0 13)) (hd : 2 ≤ d) : zS l d D b0 mX12_beginClause 0 0 81 [some (.ref o), some (.int h), some (.int (1 : Int32)), some (.int w), some (.int a), none] [] g (rv o f M) (zq D b0 (zEx none g (rv o f (if M 0 15 = -9 then pbcD M h w a True else M)))) := by
  show zS _ _ _ _ _ _ _ 81 _ _ _ _ _
  have hN1 := hN.1
  have hh1 := hh.1
  have hO1 := hO.1
  have h13 : pbcC M h w a 0 13 = M 0 13 := pbcC_0 (by decide) (by decide)
  have hX : pbcC M h w a 0 13 - 1 = nI (tn (pbcC M h w a 0 13) - 1) := by rw [h13]; exact ixS hO.2 (ixC 1) (by omega)
  have hX1 : tn (pbcC M h w a 0 13) < 130 := by rw [h13]; exact hO1
  refine z_aload0 dX12_beginClause_81 ?_
  refine zr_getI fl_RX12_85 hW dX12_beginClause_82 ?_
  refine z_bipush (v := (-9)) dX12_beginClause_85 (by decide) ?_
  refine z_icmp_ne (tgt := 188) dX12_beginClause_87 (by decide) (fun c87 => ?_) (fun c87 => ?_)
  · show zS _ _ _ _ _ _ _ 188 _ _ _ _ _
    refine z_ret dX12_beginClause_188 rfl ?_
    first
      | (rw [if_neg c87]; exact ⟨rfl, rfl, rfl, rfl, rfl⟩)
      | (rw [if_pos c87]; refine ⟨rfl, rfl, ?_, rfl, rfl⟩; unfold pbcD; first | (rw [if_pos trivial]; rfl) | (rw [if_neg not_false]; rfl))
  · show zS _ _ _ _ _ _ _ 90 _ _ _ _ _
    refine z_aload0 dX12_beginClause_90 ?_
    refine z_bipush (v := 16) dX12_beginClause_91 (by decide) ?_
    refine z_iload4 dX12_beginClause_93 ?_
    refine z_callVi zmd_X12_make rfl (by decide) zl_RX12_114 zin_X12_make zsel_X12_make (R_X12_make (d := d - 1) hW _ _ hN) hW.o rfl rfl (by omega) rfl dX12_beginClause_95 ?_
    refine z_istore5 dX12_beginClause_98 ?_
    refine z_aload0 dX12_beginClause_100 ?_
    refine z_getRs fl_RX12_8 (by decide) hW.o (hW.r 0 rfl) dX12_beginClause_101 ?_
    refine z_iconst (v := 5) dX12_beginClause_104 (by decide) ?_
    refine z_iload5 dX12_beginClause_105 ?_
    refine z_imul dX12_beginClause_107 ?_
    refine z_iconst (v := 3) dX12_beginClause_108 (by decide) ?_
    show zS _ _ _ _ _ _ _ 109 _ _ _ _ _
    refine z_iadd dX12_beginClause_109 ?_
    refine z_aload0 dX12_beginClause_110 ?_
    refine z_getRs fl_RX12_8 (by decide) hW.o (hW.r 0 rfl) dX12_beginClause_111 ?_
    refine z_iconst (v := 5) dX12_beginClause_114 (by decide) ?_
    refine z_iload1 dX12_beginClause_115 ?_
    refine z_imul dX12_beginClause_116 ?_
    refine z_iconst (v := 3) dX12_beginClause_117 (by decide) ?_
    refine z_iadd dX12_beginClause_118 ?_
    refine zr_ld hW (i := 0) rfl (by decide) (by decide) (ixA (ixM (ixC 5) hh.2) (ixC 3)) (by omega) dX12_beginClause_119 ?_
    refine zr_st hW (i := 0) rfl (by decide) (by decide) (ixA (ixM (ixC 5) hN.2) (ixC 3)) (by omega) dX12_beginClause_120 ?_
    refine z_aload0 dX12_beginClause_121 ?_
    refine z_getRs fl_RX12_8 (by decide) hW.o (hW.r 0 rfl) dX12_beginClause_122 ?_
    show zS _ _ _ _ _ _ _ 125 _ _ _ _ _
    refine z_iconst (v := 5) dX12_beginClause_125 (by decide) ?_
    refine z_iload5 dX12_beginClause_126 ?_
    refine z_imul dX12_beginClause_128 ?_
    refine z_iconst (v := 4) dX12_beginClause_129 (by decide) ?_
    refine z_iadd dX12_beginClause_130 ?_
    refine z_iload3 dX12_beginClause_131 ?_
    refine zr_st hW (i := 0) rfl (by decide) (by decide) (ixA (ixM (ixC 5) hN.2) (ixC 4)) (by omega) dX12_beginClause_132 ?_
    refine z_aload0 dX12_beginClause_133 ?_
    refine z_getRs fl_RX12_8 (by decide) hW.o (hW.r 0 rfl) dX12_beginClause_134 ?_
    refine z_iconst (v := 5) dX12_beginClause_137 (by decide) ?_
    refine z_iload1 dX12_beginClause_138 ?_
    refine z_imul dX12_beginClause_139 ?_
    show zS _ _ _ _ _ _ _ 140 _ _ _ _ _
    refine z_iconst (v := 3) dX12_beginClause_140 (by decide) ?_
    refine z_iadd dX12_beginClause_141 ?_
    refine z_iload5 dX12_beginClause_142 ?_
    refine zr_st hW (i := 0) rfl (by decide) (by decide) (ixA (ixM (ixC 5) hh.2) (ixC 3)) (by omega) dX12_beginClause_144 ?_
    refine z_aload0 dX12_beginClause_145 ?_
    refine z_iload5 dX12_beginClause_146 ?_
    refine z_aload0 dX12_beginClause_148 ?_
    refine z_getRs fl_RX12_37 (by decide) hW.o (hW.r 8 rfl) dX12_beginClause_149 ?_
    refine z_aload0 dX12_beginClause_152 ?_
    refine zr_getI fl_RX12_108 hW dX12_beginClause_153 ?_
    refine z_iconst (v := 1) dX12_beginClause_156 (by decide) ?_
    refine z_isub dX12_beginClause_157 ?_
    show zS _ _ _ _ _ _ _ 158 _ _ _ _ _
    refine zr_ld hW (i := 8) rfl (by decide) (by decide) hX (by omega) dX12_beginClause_158 ?_
    refine z_iconst (v := 1) dX12_beginClause_159 (by decide) ?_
    refine z_iload4 dX12_beginClause_160 ?_
    refine z_ishl dX12_beginClause_162 ?_
    refine z_ior dX12_beginClause_163 ?_
    refine z_iload2 dX12_beginClause_164 ?_
    refine z_if_eq (tgt := 182) dX12_beginClause_165 (by decide) (fun c165 => ?_) (fun c165 => ?_)
    · exact absurd c165 (by decide)
    · show zS _ _ _ _ _ _ _ 168 _ _ _ _ _
      refine z_aload0 dX12_beginClause_168 ?_
      refine z_getRs fl_RX12_40 (by decide) hW.o (hW.r 9 rfl) dX12_beginClause_169 ?_
      refine z_aload0 dX12_beginClause_172 ?_
      refine zr_getI fl_RX12_108 hW dX12_beginClause_173 ?_
      refine z_iconst (v := 1) dX12_beginClause_176 (by decide) ?_
      refine z_isub dX12_beginClause_177 ?_
      refine zr_ld hW (i := 9) rfl (by decide) (by decide) hX (by omega) dX12_beginClause_178 ?_
      refine z_goto (tgt := 185) dX12_beginClause_179 (by decide) ?_
      show zS _ _ _ _ _ _ _ 185 _ _ _ _ _
      refine z_callVv zmd_X12_enter rfl (by decide) zl_RX12_127 zin_X12_enter zsel_X12_enter (R_X12_enter (d := d - 1) hW _ _ _ (by show iv 130 (pbcC M h w a 0 13); rw [h13]; exact hO)) hW.o rfl rfl (by omega) rfl dX12_beginClause_185 ?_
      refine z_ret dX12_beginClause_188 rfl ?_
      first
        | (rw [if_neg c87]; exact ⟨rfl, rfl, rfl, rfl, rfl⟩)
        | (rw [if_pos c87]; refine ⟨rfl, rfl, ?_, rfl, rfl⟩; unfold pbcD; first | (rw [if_pos trivial]; rfl) | (rw [if_neg not_false]; rfl))
set_option maxRecDepth 20000 in
theorem Rt_X12_beginClause_f {l : Launch} {d : Nat} {D : zD} {b0 : Nat} {g : zG} {f M : zI} {o : Nat} (hW : RW b0 g o) (h w a : Int32) (hh : iv 65000 h) (hN : iv 65000 (M 0 1)) (hO : iv 130 (M 0 13)) (hO0 : 0 < tn (M 0 13)) (hd : 2 ≤ d) : zS l d D b0 mX12_beginClause 0 0 81 [some (.ref o), some (.int h), some (.int (0 : Int32)), some (.int w), some (.int a), none] [] g (rv o f M) (zq D b0 (zEx none g (rv o f (if M 0 15 = -9 then pbcD M h w a False else M)))) := by
  show zS _ _ _ _ _ _ _ 81 _ _ _ _ _
  have hN1 := hN.1
  have hh1 := hh.1
  have hO1 := hO.1
  have h13 : pbcC M h w a 0 13 = M 0 13 := pbcC_0 (by decide) (by decide)
  have hX : pbcC M h w a 0 13 - 1 = nI (tn (pbcC M h w a 0 13) - 1) := by rw [h13]; exact ixS hO.2 (ixC 1) (by omega)
  have hX1 : tn (pbcC M h w a 0 13) < 130 := by rw [h13]; exact hO1
  refine z_aload0 dX12_beginClause_81 ?_
  refine zr_getI fl_RX12_85 hW dX12_beginClause_82 ?_
  refine z_bipush (v := (-9)) dX12_beginClause_85 (by decide) ?_
  refine z_icmp_ne (tgt := 188) dX12_beginClause_87 (by decide) (fun c87 => ?_) (fun c87 => ?_)
  · show zS _ _ _ _ _ _ _ 188 _ _ _ _ _
    refine z_ret dX12_beginClause_188 rfl ?_
    first
      | (rw [if_neg c87]; exact ⟨rfl, rfl, rfl, rfl, rfl⟩)
      | (rw [if_pos c87]; refine ⟨rfl, rfl, ?_, rfl, rfl⟩; unfold pbcD; first | (rw [if_pos trivial]; rfl) | (rw [if_neg not_false]; rfl))
  · show zS _ _ _ _ _ _ _ 90 _ _ _ _ _
    refine z_aload0 dX12_beginClause_90 ?_
    refine z_bipush (v := 16) dX12_beginClause_91 (by decide) ?_
    refine z_iload4 dX12_beginClause_93 ?_
    refine z_callVi zmd_X12_make rfl (by decide) zl_RX12_114 zin_X12_make zsel_X12_make (R_X12_make (d := d - 1) hW _ _ hN) hW.o rfl rfl (by omega) rfl dX12_beginClause_95 ?_
    refine z_istore5 dX12_beginClause_98 ?_
    refine z_aload0 dX12_beginClause_100 ?_
    refine z_getRs fl_RX12_8 (by decide) hW.o (hW.r 0 rfl) dX12_beginClause_101 ?_
    refine z_iconst (v := 5) dX12_beginClause_104 (by decide) ?_
    refine z_iload5 dX12_beginClause_105 ?_
    refine z_imul dX12_beginClause_107 ?_
    refine z_iconst (v := 3) dX12_beginClause_108 (by decide) ?_
    show zS _ _ _ _ _ _ _ 109 _ _ _ _ _
    refine z_iadd dX12_beginClause_109 ?_
    refine z_aload0 dX12_beginClause_110 ?_
    refine z_getRs fl_RX12_8 (by decide) hW.o (hW.r 0 rfl) dX12_beginClause_111 ?_
    refine z_iconst (v := 5) dX12_beginClause_114 (by decide) ?_
    refine z_iload1 dX12_beginClause_115 ?_
    refine z_imul dX12_beginClause_116 ?_
    refine z_iconst (v := 3) dX12_beginClause_117 (by decide) ?_
    refine z_iadd dX12_beginClause_118 ?_
    refine zr_ld hW (i := 0) rfl (by decide) (by decide) (ixA (ixM (ixC 5) hh.2) (ixC 3)) (by omega) dX12_beginClause_119 ?_
    refine zr_st hW (i := 0) rfl (by decide) (by decide) (ixA (ixM (ixC 5) hN.2) (ixC 3)) (by omega) dX12_beginClause_120 ?_
    refine z_aload0 dX12_beginClause_121 ?_
    refine z_getRs fl_RX12_8 (by decide) hW.o (hW.r 0 rfl) dX12_beginClause_122 ?_
    show zS _ _ _ _ _ _ _ 125 _ _ _ _ _
    refine z_iconst (v := 5) dX12_beginClause_125 (by decide) ?_
    refine z_iload5 dX12_beginClause_126 ?_
    refine z_imul dX12_beginClause_128 ?_
    refine z_iconst (v := 4) dX12_beginClause_129 (by decide) ?_
    refine z_iadd dX12_beginClause_130 ?_
    refine z_iload3 dX12_beginClause_131 ?_
    refine zr_st hW (i := 0) rfl (by decide) (by decide) (ixA (ixM (ixC 5) hN.2) (ixC 4)) (by omega) dX12_beginClause_132 ?_
    refine z_aload0 dX12_beginClause_133 ?_
    refine z_getRs fl_RX12_8 (by decide) hW.o (hW.r 0 rfl) dX12_beginClause_134 ?_
    refine z_iconst (v := 5) dX12_beginClause_137 (by decide) ?_
    refine z_iload1 dX12_beginClause_138 ?_
    refine z_imul dX12_beginClause_139 ?_
    show zS _ _ _ _ _ _ _ 140 _ _ _ _ _
    refine z_iconst (v := 3) dX12_beginClause_140 (by decide) ?_
    refine z_iadd dX12_beginClause_141 ?_
    refine z_iload5 dX12_beginClause_142 ?_
    refine zr_st hW (i := 0) rfl (by decide) (by decide) (ixA (ixM (ixC 5) hh.2) (ixC 3)) (by omega) dX12_beginClause_144 ?_
    refine z_aload0 dX12_beginClause_145 ?_
    refine z_iload5 dX12_beginClause_146 ?_
    refine z_aload0 dX12_beginClause_148 ?_
    refine z_getRs fl_RX12_37 (by decide) hW.o (hW.r 8 rfl) dX12_beginClause_149 ?_
    refine z_aload0 dX12_beginClause_152 ?_
    refine zr_getI fl_RX12_108 hW dX12_beginClause_153 ?_
    refine z_iconst (v := 1) dX12_beginClause_156 (by decide) ?_
    refine z_isub dX12_beginClause_157 ?_
    show zS _ _ _ _ _ _ _ 158 _ _ _ _ _
    refine zr_ld hW (i := 8) rfl (by decide) (by decide) hX (by omega) dX12_beginClause_158 ?_
    refine z_iconst (v := 1) dX12_beginClause_159 (by decide) ?_
    refine z_iload4 dX12_beginClause_160 ?_
    refine z_ishl dX12_beginClause_162 ?_
    refine z_ior dX12_beginClause_163 ?_
    refine z_iload2 dX12_beginClause_164 ?_
    refine z_if_eq (tgt := 182) dX12_beginClause_165 (by decide) (fun c165 => ?_) (fun c165 => ?_)
    · show zS _ _ _ _ _ _ _ 182 _ _ _ _ _
      refine z_iload1 dX12_beginClause_182 ?_
      refine z_iconst (v := 1) dX12_beginClause_183 (by decide) ?_
      refine z_iadd dX12_beginClause_184 ?_
      refine z_callVv zmd_X12_enter rfl (by decide) zl_RX12_127 zin_X12_enter zsel_X12_enter (R_X12_enter (d := d - 1) hW _ _ _ (by show iv 130 (pbcC M h w a 0 13); rw [h13]; exact hO)) hW.o rfl rfl (by omega) rfl dX12_beginClause_185 ?_
      refine z_ret dX12_beginClause_188 rfl ?_
      first
        | (rw [if_neg c87]; exact ⟨rfl, rfl, rfl, rfl, rfl⟩)
        | (rw [if_pos c87]; refine ⟨rfl, rfl, ?_, rfl, rfl⟩; unfold pbcD; first | (rw [if_pos trivial]; rfl) | (rw [if_neg not_false]; rfl))
    · exact absurd rfl c165
theorem pbclause_no {M : zI} {h : Int32} (q : ¬ ((phere M = 58 ∨ ¬ (phere M - 65 < 0 ∨ 5 < phere M - 65)) ∧ pclause M h (pbc1 M) = -9)) : pbclause M h = pfails M := if_neg q
theorem pbclause_yes {M : zI} {h : Int32} (q : (phere M = 58 ∨ ¬ (phere M - 65 < 0 ∨ 5 < phere M - 65)) ∧ pclause M h (pbc1 M) = -9) : pbclause M h = (if (ptake (patn M) 97 122).2 0 15 = -9 then pbcD (ptake (patn M) 97 122).2 h (pbc1 M) (ptake (patn M) 97 122).1 (phere M = 58) else (ptake (patn M) 97 122).2) := if_pos q
theorem phere_ne {M : zI} (h : ¬ phere M = 0) : M 0 14 < M 0 8 := by
  rcases Decidable.em (M 0 14 < M 0 8) with q | q
  · exact q
  · exact absurd (phere_0 q) h
set_option maxRecDepth 20000 in
theorem Rt_X12_beginClause_15t {l : Launch} {d : Nat} {D : zD} {b0 : Nat} {g : zG} {f M : zI} {o : Nat} (hW : RW b0 g o) (h : Int32) (hV : pbclauseV M h) (c6 : phere M = 58) (hd : 2 ≤ d) : zS l d D b0 mX12_beginClause 0 0 15 [some (.ref o), some (.int h), some (.int (1 : Int32)), none, none, none] [] g (rv o f M) (zq D b0 (zEx none g (rv o f (pbclause M h)))) := by
  obtain ⟨hp, hh, hc, hN, hO⟩ := hV
  show zS _ _ _ _ _ _ _ 15 _ _ _ _ _
  refine z_iload2 dX12_beginClause_15 ?_
  refine z_if_eq (tgt := 24) dX12_beginClause_16 (by decide) (fun c16 => ?_) (fun c16 => ?_)
  · exact absurd c16 (by decide)
  · show zS _ _ _ _ _ _ _ 19 _ _ _ _ _
    refine z_bipush (v := 6) dX12_beginClause_19 (by decide) ?_
    refine z_goto (tgt := 31) dX12_beginClause_21 (by decide) ?_
    show zS _ _ _ _ _ _ _ 31 _ _ _ _ _
    refine z_istore3 dX12_beginClause_31 ?_
    refine z_iload2 dX12_beginClause_32 ?_
    refine z_if_ne (tgt := 45) dX12_beginClause_33 (by decide) (fun c33 => ?_) (fun c33 => ?_)
    · show zS _ _ _ _ _ _ _ 45 _ _ _ _ _
      refine z_aload0 dX12_beginClause_45 ?_
      refine z_iload1 dX12_beginClause_46 ?_
      refine z_iload3 dX12_beginClause_47 ?_
      refine z_callVi zmd_X12_clause rfl (by decide) zl_RX12_131 zin_X12_clause zsel_X12_clause (R_X12_clause (d := d - 1) hW _ _ hh hc) hW.o rfl rfl (by omega) rfl dX12_beginClause_48 ?_
      refine z_bipush (v := (-9)) dX12_beginClause_51 (by decide) ?_
      refine z_icmp_eq (tgt := 61) dX12_beginClause_53 (by decide) (fun c53 => ?_) (fun c53 => ?_)
      · show zS _ _ _ _ _ _ _ 61 _ _ _ _ _
        have hlt : M 0 14 < M 0 8 := phere_ne (by rw [c6]; decide)
        have hp3 := hp.next hlt
        rw [pbclause_yes ⟨Or.inl c6, by rw [show pbc1 M = 6 from if_pos c6]; exact c53⟩]
        refine z_aload0 dX12_beginClause_61 ?_
        refine z_dup dX12_beginClause_62 ?_
        refine zr_getI fl_RX12_82 hW dX12_beginClause_63 ?_
        refine z_iconst (v := 1) dX12_beginClause_66 (by decide) ?_
        refine z_iadd dX12_beginClause_67 ?_
        refine zr_putI fl_RX12_82 hW dX12_beginClause_68 ?_
        refine z_aload0 dX12_beginClause_71 ?_
        refine z_bipush (v := 97) dX12_beginClause_72 (by decide) ?_
        refine z_bipush (v := 122) dX12_beginClause_74 (by decide) ?_
        refine z_callVi zmd_X12_take rfl (by decide) zl_RX12_104 zin_X12_take zsel_X12_take (R_X12_take (d := d - 1) hW _ _ hp3 (by decide) (by omega)) hW.o rfl rfl (by omega) rfl dX12_beginClause_76 ?_
        refine z_istore4 dX12_beginClause_79 ?_
        show zS _ _ _ _ _ _ _ 81 _ _ _ _ _
        have e1 : (ptake (patn M) 97 122).2 0 1 = M 0 1 := (ptake_0 (by decide) (by decide)).trans (zup_ne _ _ _ _ (Or.inr (by decide)))
        have e13 : (ptake (patn M) 97 122).2 0 13 = M 0 13 := (ptake_0 (by decide) (by decide)).trans (zup_ne _ _ _ _ (Or.inr (by decide)))
        have K := Rt_X12_beginClause_t (l := l) (D := D) (f := f) (M := (ptake (patn M) 97 122).2) hW h (pbc1 M) (ptake (patn M) 97 122).1 hh (by rw [e1]; exact hN) (by rw [e13]; exact hO.1) (by rw [e13]; exact hO.2) (show 2 ≤ d by omega)
        have eD : ∀ N w a, pbcD N h w a (phere M = 58) = pbcD N h w a True := by
          intro N w a
          unfold pbcD
          rw [if_pos c6, if_pos trivial]
        rw [eD]
        rw [show pbc1 M = 6 from if_pos c6] at K ⊢
        exact K
      · show zS _ _ _ _ _ _ _ 56 _ _ _ _ _
        refine z_aload0 dX12_beginClause_56 ?_
        refine z_callVv zmd_X12_fails rfl (by decide) zl_RX12_101 zin_X12_fails zsel_X12_fails (R_X12_fails (d := d - 1) hW ) hW.o rfl rfl (by omega) rfl dX12_beginClause_57 ?_
        refine z_ret dX12_beginClause_60 rfl ?_
        rw [pbclause_no (by first | exact fun q => c53 (by have e := q.2; rw [show pbc1 M = 6 from if_pos c6] at e; exact e) | exact fun q => c53 (by have e := q.2; rw [show pbc1 M = phere M - 65 from if_neg c6] at e; exact e) | exact fun q => q.1.elim c6 (fun q => q (zBno c42)))]
        exact ⟨rfl, rfl, rfl, rfl, rfl⟩
    · exact absurd c33 (by decide)
set_option maxRecDepth 20000 in
theorem Rt_X12_beginClause_15f {l : Launch} {d : Nat} {D : zD} {b0 : Nat} {g : zG} {f M : zI} {o : Nat} (hW : RW b0 g o) (h : Int32) (hV : pbclauseV M h) (c6 : ¬ phere M = 58) (hd : 2 ≤ d) : zS l d D b0 mX12_beginClause 0 0 15 [some (.ref o), some (.int h), some (.int (0 : Int32)), none, none, none] [] g (rv o f M) (zq D b0 (zEx none g (rv o f (pbclause M h)))) := by
  obtain ⟨hp, hh, hc, hN, hO⟩ := hV
  show zS _ _ _ _ _ _ _ 15 _ _ _ _ _
  refine z_iload2 dX12_beginClause_15 ?_
  refine z_if_eq (tgt := 24) dX12_beginClause_16 (by decide) (fun c16 => ?_) (fun c16 => ?_)
  · show zS _ _ _ _ _ _ _ 24 _ _ _ _ _
    refine z_aload0 dX12_beginClause_24 ?_
    refine z_callVi zmd_X12_here rfl (by decide) zl_RX12_97 zin_X12_here zsel_X12_here (R_X12_here (d := d - 1) hW hp) hW.o rfl rfl (by omega) rfl dX12_beginClause_25 ?_
    refine z_bipush (v := 65) dX12_beginClause_28 (by decide) ?_
    refine z_isub dX12_beginClause_30 ?_
    refine z_istore3 dX12_beginClause_31 ?_
    refine z_iload2 dX12_beginClause_32 ?_
    refine z_if_ne (tgt := 45) dX12_beginClause_33 (by decide) (fun c33 => ?_) (fun c33 => ?_)
    · exact absurd rfl c33
    · show zS _ _ _ _ _ _ _ 36 _ _ _ _ _
      refine z_iload3 dX12_beginClause_36 ?_
      refine z_iconst (v := 0) dX12_beginClause_37 (by decide) ?_
      refine z_iconst (v := 5) dX12_beginClause_38 (by decide) ?_
      refine z_callSi zmd_X12_isIn zl_RX12_74 zst_X12_isIn (R_X12_isIn (d := d - 1) hW _ _ _) rfl rfl (by omega) rfl dX12_beginClause_39 ?_
      refine z_if_eq (tgt := 56) dX12_beginClause_42 (by decide) (fun c42 => ?_) (fun c42 => ?_)
      · show zS _ _ _ _ _ _ _ 56 _ _ _ _ _
        refine z_aload0 dX12_beginClause_56 ?_
        refine z_callVv zmd_X12_fails rfl (by decide) zl_RX12_101 zin_X12_fails zsel_X12_fails (R_X12_fails (d := d - 1) hW ) hW.o rfl rfl (by omega) rfl dX12_beginClause_57 ?_
        refine z_ret dX12_beginClause_60 rfl ?_
        rw [pbclause_no (by first | exact fun q => c53 (by have e := q.2; rw [show pbc1 M = 6 from if_pos c6] at e; exact e) | exact fun q => c53 (by have e := q.2; rw [show pbc1 M = phere M - 65 from if_neg c6] at e; exact e) | exact fun q => q.1.elim c6 (fun q => q (zBno c42)))]
        exact ⟨rfl, rfl, rfl, rfl, rfl⟩
      · show zS _ _ _ _ _ _ _ 45 _ _ _ _ _
        refine z_aload0 dX12_beginClause_45 ?_
        refine z_iload1 dX12_beginClause_46 ?_
        refine z_iload3 dX12_beginClause_47 ?_
        refine z_callVi zmd_X12_clause rfl (by decide) zl_RX12_131 zin_X12_clause zsel_X12_clause (R_X12_clause (d := d - 1) hW _ _ hh hc) hW.o rfl rfl (by omega) rfl dX12_beginClause_48 ?_
        refine z_bipush (v := (-9)) dX12_beginClause_51 (by decide) ?_
        refine z_icmp_eq (tgt := 61) dX12_beginClause_53 (by decide) (fun c53 => ?_) (fun c53 => ?_)
        · show zS _ _ _ _ _ _ _ 61 _ _ _ _ _
          have hno := zByes c42
          have hlt : M 0 14 < M 0 8 := phere_ne (fun q => hno (Or.inl (by rw [q]; decide)))
          have hp3 := hp.next hlt
          rw [pbclause_yes ⟨Or.inr hno, by rw [show pbc1 M = phere M - 65 from if_neg c6]; exact c53⟩]
          refine z_aload0 dX12_beginClause_61 ?_
          refine z_dup dX12_beginClause_62 ?_
          refine zr_getI fl_RX12_82 hW dX12_beginClause_63 ?_
          refine z_iconst (v := 1) dX12_beginClause_66 (by decide) ?_
          refine z_iadd dX12_beginClause_67 ?_
          refine zr_putI fl_RX12_82 hW dX12_beginClause_68 ?_
          refine z_aload0 dX12_beginClause_71 ?_
          refine z_bipush (v := 97) dX12_beginClause_72 (by decide) ?_
          refine z_bipush (v := 122) dX12_beginClause_74 (by decide) ?_
          refine z_callVi zmd_X12_take rfl (by decide) zl_RX12_104 zin_X12_take zsel_X12_take (R_X12_take (d := d - 1) hW _ _ hp3 (by decide) (by omega)) hW.o rfl rfl (by omega) rfl dX12_beginClause_76 ?_
          refine z_istore4 dX12_beginClause_79 ?_
          show zS _ _ _ _ _ _ _ 81 _ _ _ _ _
          have e1 : (ptake (patn M) 97 122).2 0 1 = M 0 1 := (ptake_0 (by decide) (by decide)).trans (zup_ne _ _ _ _ (Or.inr (by decide)))
          have e13 : (ptake (patn M) 97 122).2 0 13 = M 0 13 := (ptake_0 (by decide) (by decide)).trans (zup_ne _ _ _ _ (Or.inr (by decide)))
          have K := Rt_X12_beginClause_f (l := l) (D := D) (f := f) (M := (ptake (patn M) 97 122).2) hW h (pbc1 M) (ptake (patn M) 97 122).1 hh (by rw [e1]; exact hN) (by rw [e13]; exact hO.1) (by rw [e13]; exact hO.2) (show 2 ≤ d by omega)
          have eD : ∀ N w a, pbcD N h w a (phere M = 58) = pbcD N h w a False := by
            intro N w a
            unfold pbcD
            rw [if_neg c6, if_neg not_false]
          rw [eD]
          rw [show pbc1 M = phere M - 65 from if_neg c6] at K ⊢
          exact K
        · show zS _ _ _ _ _ _ _ 56 _ _ _ _ _
          refine z_aload0 dX12_beginClause_56 ?_
          refine z_callVv zmd_X12_fails rfl (by decide) zl_RX12_101 zin_X12_fails zsel_X12_fails (R_X12_fails (d := d - 1) hW ) hW.o rfl rfl (by omega) rfl dX12_beginClause_57 ?_
          refine z_ret dX12_beginClause_60 rfl ?_
          rw [pbclause_no (by first | exact fun q => c53 (by have e := q.2; rw [show pbc1 M = 6 from if_pos c6] at e; exact e) | exact fun q => c53 (by have e := q.2; rw [show pbc1 M = phere M - 65 from if_neg c6] at e; exact e) | exact fun q => q.1.elim c6 (fun q => q (zBno c42)))]
          exact ⟨rfl, rfl, rfl, rfl, rfl⟩
  · exact absurd rfl c16
set_option maxRecDepth 20000 in
theorem R_X12_beginClause {l : Launch} {d : Nat} {D : zD} {b0 : Nat} {g : zG} {f M : zI} {o : Nat} (hW : RW b0 g o) (h : Int32) (hV : pbclauseV M h) (hd : 2 ≤ d) : zM l d D b0 mX12_beginClause [.ref o, .int h] g (rv o f M) (zEx none g (rv o f (pbclause M h))) := by
  refine zM.start zmd_X12_beginClause (Nat.le_of_ble_eq_true rfl) ⟨rfl, rfl, trivial⟩ [some (.ref o), some (.int h), none, none, none, none] rfl ?_
  refine z_aload0 dX12_beginClause_0 ?_
  refine z_callVi zmd_X12_here rfl (by decide) zl_RX12_97 zin_X12_here zsel_X12_here (R_X12_here (d := d - 1) hW hV.1) hW.o rfl rfl (by omega) rfl dX12_beginClause_1 ?_
  refine z_bipush (v := 58) dX12_beginClause_4 (by decide) ?_
  refine z_icmp_ne (tgt := 13) dX12_beginClause_6 (by decide) (fun c6 => ?_) (fun c6 => ?_)
  · show zS _ _ _ _ _ _ _ 13 _ _ _ _ _
    refine z_iconst (v := 0) dX12_beginClause_13 (by decide) ?_
    refine z_istore2 dX12_beginClause_14 ?_
    first | exact Rt_X12_beginClause_15t hW h hV c6 hd | exact Rt_X12_beginClause_15f hW h hV c6 hd
  · show zS _ _ _ _ _ _ _ 9 _ _ _ _ _
    refine z_iconst (v := 1) dX12_beginClause_9 (by decide) ?_
    refine z_goto (tgt := 14) dX12_beginClause_10 (by decide) ?_
    show zS _ _ _ _ _ _ _ 14 _ _ _ _ _
    refine z_istore2 dX12_beginClause_14 ?_
    first | exact Rt_X12_beginClause_15t hW h hV c6 hd | exact Rt_X12_beginClause_15f hW h hV c6 hd
def ptop (M : zI) : Nat := tn (M 0 13) - 1
def pboundNext (M : zI) : Int32 := M 9 (ptop M) ||| (if pkind M (M 7 (ptop M)) = 8 ∧ M 8 (ptop M) = 1 then 1 <<< (parg M (M 7 (ptop M)) &&& 31) else 0)
def pattach (M : zI) (x : Int32) : zI :=
  let M1 := zup M 1 (5 * tn (M 7 (ptop M)) + 2 + tn (M 8 (ptop M))) x
  zup M1 8 (ptop M) (M1 8 (ptop M) + 1)
def pnz (M : zI) : Prop := iv 131 (M 0 13) ∧ 0 < tn (M 0 13)
theorem pnz.ix {M : zI} (h : pnz M) : M 0 13 - 1 = nI (ptop M) := ixS h.1.2 (ixC 1) h.2
theorem pnz.bd {M : zI} (h : pnz M) : ptop M < 130 := by have := h.1.1; have := h.2; unfold ptop; omega
set_option maxRecDepth 20000 in
theorem R_X12_boundNext {l : Launch} {d : Nat} {D : zD} {b0 : Nat} {g : zG} {f M : zI} {o : Nat} (hW : RW b0 g o) (hz : pnz M) (hn : iv 65000 (M 7 (ptop M))) (hd : 1 ≤ d) : zM l d D b0 mX12_boundNext [.ref o] g (rv o f M) (zEx (some (.int (pboundNext M))) g (rv o f M)) := by
  refine zM.start zmd_X12_boundNext (Nat.le_of_ble_eq_true rfl) ⟨rfl, trivial⟩ [some (.ref o), none, none] rfl ?_
  refine z_aload0 dX12_boundNext_0 ?_
  refine z_getRs fl_RX12_31 (by decide) hW.o (hW.r 6 rfl) dX12_boundNext_1 ?_
  refine z_aload0 dX12_boundNext_4 ?_
  refine zr_getI fl_RX12_108 hW dX12_boundNext_5 ?_
  refine z_iconst (v := 1) dX12_boundNext_8 (by decide) ?_
  refine z_isub dX12_boundNext_9 ?_
  refine zr_ld hW (i := 6) rfl (by decide) (by decide) hz.ix hz.bd dX12_boundNext_10 ?_
  refine z_istore1 dX12_boundNext_11 ?_
  refine z_aload0 dX12_boundNext_12 ?_
  refine z_iload1 dX12_boundNext_13 ?_
  refine z_callVi zmd_X12_kind rfl (by decide) zl_RX12_134 zin_X12_kind zsel_X12_kind (R_X12_kind (d := d - 1) hW _ hn) hW.o rfl rfl (by omega) rfl dX12_boundNext_14 ?_
  show zS _ _ _ _ _ _ _ 17 _ _ _ _ _
  refine z_bipush (v := 8) dX12_boundNext_17 (by decide) ?_
  refine z_icmp_ne (tgt := 41) dX12_boundNext_19 (by decide) (fun c19 => ?_) (fun c19 => ?_)
  · show zS _ _ _ _ _ _ _ 41 _ _ _ _ _
    refine z_iconst (v := 0) dX12_boundNext_41 (by decide) ?_
    refine z_istore2 dX12_boundNext_42 ?_
    refine z_aload0 dX12_boundNext_43 ?_
    refine z_getRs fl_RX12_37 (by decide) hW.o (hW.r 8 rfl) dX12_boundNext_44 ?_
    refine z_aload0 dX12_boundNext_47 ?_
    refine zr_getI fl_RX12_108 hW dX12_boundNext_48 ?_
    refine z_iconst (v := 1) dX12_boundNext_51 (by decide) ?_
    refine z_isub dX12_boundNext_52 ?_
    refine zr_ld hW (i := 8) rfl (by decide) (by decide) hz.ix hz.bd dX12_boundNext_53 ?_
    refine z_iload2 dX12_boundNext_54 ?_
    refine z_if_eq (tgt := 68) dX12_boundNext_55 (by decide) (fun c55 => ?_) (fun c55 => ?_)
    · show zS _ _ _ _ _ _ _ 68 _ _ _ _ _
      refine z_iconst (v := 0) dX12_boundNext_68 (by decide) ?_
      refine z_ior dX12_boundNext_69 ?_
      refine z_iret dX12_boundNext_70 rfl ?_
      first | exact absurd rfl c55 | exact absurd c55 (by decide) | (refine ⟨congrArg (fun z => some (Value.int (M 9 (ptop M) ||| z))) ?_, rfl, rfl, rfl, rfl⟩; first | exact (if_pos ⟨by assumption, by assumption⟩).symm | exact (if_neg (fun q => absurd q.1 (by assumption))).symm | exact (if_neg (fun q => absurd q.2 (by assumption))).symm)
    · show zS _ _ _ _ _ _ _ 58 _ _ _ _ _
      refine z_iconst (v := 1) dX12_boundNext_58 (by decide) ?_
      refine z_aload0 dX12_boundNext_59 ?_
      refine z_iload1 dX12_boundNext_60 ?_
      refine z_callVi zmd_X12_argument rfl (by decide) zl_RX12_137 zin_X12_argument zsel_X12_argument (R_X12_argument (d := d - 1) hW _ hn) hW.o rfl rfl (by omega) rfl dX12_boundNext_61 ?_
      refine z_ishl dX12_boundNext_64 ?_
      refine z_goto (tgt := 69) dX12_boundNext_65 (by decide) ?_
      show zS _ _ _ _ _ _ _ 69 _ _ _ _ _
      refine z_ior dX12_boundNext_69 ?_
      refine z_iret dX12_boundNext_70 rfl ?_
      first | exact absurd rfl c55 | exact absurd c55 (by decide) | (refine ⟨congrArg (fun z => some (Value.int (M 9 (ptop M) ||| z))) ?_, rfl, rfl, rfl, rfl⟩; first | exact (if_pos ⟨by assumption, by assumption⟩).symm | exact (if_neg (fun q => absurd q.1 (by assumption))).symm | exact (if_neg (fun q => absurd q.2 (by assumption))).symm)
  · show zS _ _ _ _ _ _ _ 22 _ _ _ _ _
    refine z_aload0 dX12_boundNext_22 ?_
    refine z_getRs fl_RX12_34 (by decide) hW.o (hW.r 7 rfl) dX12_boundNext_23 ?_
    refine z_aload0 dX12_boundNext_26 ?_
    refine zr_getI fl_RX12_108 hW dX12_boundNext_27 ?_
    refine z_iconst (v := 1) dX12_boundNext_30 (by decide) ?_
    refine z_isub dX12_boundNext_31 ?_
    refine zr_ld hW (i := 7) rfl (by decide) (by decide) hz.ix hz.bd dX12_boundNext_32 ?_
    refine z_iconst (v := 1) dX12_boundNext_33 (by decide) ?_
    refine z_icmp_ne (tgt := 41) dX12_boundNext_34 (by decide) (fun c34 => ?_) (fun c34 => ?_)
    · show zS _ _ _ _ _ _ _ 41 _ _ _ _ _
      refine z_iconst (v := 0) dX12_boundNext_41 (by decide) ?_
      refine z_istore2 dX12_boundNext_42 ?_
      refine z_aload0 dX12_boundNext_43 ?_
      refine z_getRs fl_RX12_37 (by decide) hW.o (hW.r 8 rfl) dX12_boundNext_44 ?_
      refine z_aload0 dX12_boundNext_47 ?_
      refine zr_getI fl_RX12_108 hW dX12_boundNext_48 ?_
      refine z_iconst (v := 1) dX12_boundNext_51 (by decide) ?_
      refine z_isub dX12_boundNext_52 ?_
      refine zr_ld hW (i := 8) rfl (by decide) (by decide) hz.ix hz.bd dX12_boundNext_53 ?_
      refine z_iload2 dX12_boundNext_54 ?_
      refine z_if_eq (tgt := 68) dX12_boundNext_55 (by decide) (fun c55 => ?_) (fun c55 => ?_)
      · show zS _ _ _ _ _ _ _ 68 _ _ _ _ _
        refine z_iconst (v := 0) dX12_boundNext_68 (by decide) ?_
        refine z_ior dX12_boundNext_69 ?_
        refine z_iret dX12_boundNext_70 rfl ?_
        first | exact absurd rfl c55 | exact absurd c55 (by decide) | (refine ⟨congrArg (fun z => some (Value.int (M 9 (ptop M) ||| z))) ?_, rfl, rfl, rfl, rfl⟩; first | exact (if_pos ⟨by assumption, by assumption⟩).symm | exact (if_neg (fun q => absurd q.1 (by assumption))).symm | exact (if_neg (fun q => absurd q.2 (by assumption))).symm)
      · show zS _ _ _ _ _ _ _ 58 _ _ _ _ _
        refine z_iconst (v := 1) dX12_boundNext_58 (by decide) ?_
        refine z_aload0 dX12_boundNext_59 ?_
        refine z_iload1 dX12_boundNext_60 ?_
        refine z_callVi zmd_X12_argument rfl (by decide) zl_RX12_137 zin_X12_argument zsel_X12_argument (R_X12_argument (d := d - 1) hW _ hn) hW.o rfl rfl (by omega) rfl dX12_boundNext_61 ?_
        refine z_ishl dX12_boundNext_64 ?_
        refine z_goto (tgt := 69) dX12_boundNext_65 (by decide) ?_
        show zS _ _ _ _ _ _ _ 69 _ _ _ _ _
        refine z_ior dX12_boundNext_69 ?_
        refine z_iret dX12_boundNext_70 rfl ?_
        first | exact absurd rfl c55 | exact absurd c55 (by decide) | (refine ⟨congrArg (fun z => some (Value.int (M 9 (ptop M) ||| z))) ?_, rfl, rfl, rfl, rfl⟩; first | exact (if_pos ⟨by assumption, by assumption⟩).symm | exact (if_neg (fun q => absurd q.1 (by assumption))).symm | exact (if_neg (fun q => absurd q.2 (by assumption))).symm)
    · show zS _ _ _ _ _ _ _ 37 _ _ _ _ _
      refine z_iconst (v := 1) dX12_boundNext_37 (by decide) ?_
      refine z_goto (tgt := 42) dX12_boundNext_38 (by decide) ?_
      show zS _ _ _ _ _ _ _ 42 _ _ _ _ _
      refine z_istore2 dX12_boundNext_42 ?_
      refine z_aload0 dX12_boundNext_43 ?_
      refine z_getRs fl_RX12_37 (by decide) hW.o (hW.r 8 rfl) dX12_boundNext_44 ?_
      refine z_aload0 dX12_boundNext_47 ?_
      refine zr_getI fl_RX12_108 hW dX12_boundNext_48 ?_
      refine z_iconst (v := 1) dX12_boundNext_51 (by decide) ?_
      refine z_isub dX12_boundNext_52 ?_
      refine zr_ld hW (i := 8) rfl (by decide) (by decide) hz.ix hz.bd dX12_boundNext_53 ?_
      refine z_iload2 dX12_boundNext_54 ?_
      refine z_if_eq (tgt := 68) dX12_boundNext_55 (by decide) (fun c55 => ?_) (fun c55 => ?_)
      · show zS _ _ _ _ _ _ _ 68 _ _ _ _ _
        refine z_iconst (v := 0) dX12_boundNext_68 (by decide) ?_
        refine z_ior dX12_boundNext_69 ?_
        refine z_iret dX12_boundNext_70 rfl ?_
        first | exact absurd rfl c55 | exact absurd c55 (by decide) | (refine ⟨congrArg (fun z => some (Value.int (M 9 (ptop M) ||| z))) ?_, rfl, rfl, rfl, rfl⟩; first | exact (if_pos ⟨by assumption, by assumption⟩).symm | exact (if_neg (fun q => absurd q.1 (by assumption))).symm | exact (if_neg (fun q => absurd q.2 (by assumption))).symm)
      · show zS _ _ _ _ _ _ _ 58 _ _ _ _ _
        refine z_iconst (v := 1) dX12_boundNext_58 (by decide) ?_
        refine z_aload0 dX12_boundNext_59 ?_
        refine z_iload1 dX12_boundNext_60 ?_
        refine z_callVi zmd_X12_argument rfl (by decide) zl_RX12_137 zin_X12_argument zsel_X12_argument (R_X12_argument (d := d - 1) hW _ hn) hW.o rfl rfl (by omega) rfl dX12_boundNext_61 ?_
        refine z_ishl dX12_boundNext_64 ?_
        refine z_goto (tgt := 69) dX12_boundNext_65 (by decide) ?_
        show zS _ _ _ _ _ _ _ 69 _ _ _ _ _
        refine z_ior dX12_boundNext_69 ?_
        refine z_iret dX12_boundNext_70 rfl ?_
        first | exact absurd rfl c55 | exact absurd c55 (by decide) | (refine ⟨congrArg (fun z => some (Value.int (M 9 (ptop M) ||| z))) ?_, rfl, rfl, rfl, rfl⟩; first | exact (if_pos ⟨by assumption, by assumption⟩).symm | exact (if_neg (fun q => absurd q.1 (by assumption))).symm | exact (if_neg (fun q => absurd q.2 (by assumption))).symm)
set_option maxRecDepth 20000 in
theorem R_X12_attach {l : Launch} {d : Nat} {D : zD} {b0 : Nat} {g : zG} {f M : zI} {o : Nat} (hW : RW b0 g o) (x : Int32) (hz : pnz M) (hn : iv 64990 (M 7 (ptop M))) (hs : iv 3 (M 8 (ptop M))) : zM l d D b0 mX12_attach [.ref o, .int x] g (rv o f M) (zEx none g (rv o f (pattach M x))) := by
  refine zM.start zmd_X12_attach (Nat.le_of_ble_eq_true rfl) ⟨rfl, rfl, trivial⟩ [some (.ref o), some (.int x), none] rfl ?_
  refine z_aload0 dX12_attach_0 ?_
  refine z_getRs fl_RX12_31 (by decide) hW.o (hW.r 6 rfl) dX12_attach_1 ?_
  refine z_aload0 dX12_attach_4 ?_
  refine zr_getI fl_RX12_108 hW dX12_attach_5 ?_
  refine z_iconst (v := 1) dX12_attach_8 (by decide) ?_
  refine z_isub dX12_attach_9 ?_
  refine zr_ld hW (i := 6) rfl (by decide) (by decide) hz.ix hz.bd dX12_attach_10 ?_
  refine z_istore2 dX12_attach_11 ?_
  refine z_aload0 dX12_attach_12 ?_
  refine z_getRs fl_RX12_8 (by decide) hW.o (hW.r 0 rfl) dX12_attach_13 ?_
  refine z_iconst (v := 5) dX12_attach_16 (by decide) ?_
  show zS _ _ _ _ _ _ _ 17 _ _ _ _ _
  refine z_iload2 dX12_attach_17 ?_
  refine z_imul dX12_attach_18 ?_
  refine z_iconst (v := 2) dX12_attach_19 (by decide) ?_
  refine z_iadd dX12_attach_20 ?_
  refine z_aload0 dX12_attach_21 ?_
  refine z_getRs fl_RX12_34 (by decide) hW.o (hW.r 7 rfl) dX12_attach_22 ?_
  refine z_aload0 dX12_attach_25 ?_
  refine zr_getI fl_RX12_108 hW dX12_attach_26 ?_
  refine z_iconst (v := 1) dX12_attach_29 (by decide) ?_
  refine z_isub dX12_attach_30 ?_
  refine zr_ld hW (i := 7) rfl (by decide) (by decide) hz.ix hz.bd dX12_attach_31 ?_
  refine z_iadd dX12_attach_32 ?_
  show zS _ _ _ _ _ _ _ 33 _ _ _ _ _
  refine z_iload1 dX12_attach_33 ?_
  have hn1 := hn.1
  have hs1 := hs.1
  refine zr_st hW (i := 0) rfl (by decide) (by decide) (ixA (ixA (ixM (ixC 5) hn.2) (ixC 2)) hs.2) (by omega) dX12_attach_34 ?_
  refine z_aload0 dX12_attach_35 ?_
  refine z_getRs fl_RX12_34 (by decide) hW.o (hW.r 7 rfl) dX12_attach_36 ?_
  refine z_aload0 dX12_attach_39 ?_
  refine zr_getI fl_RX12_108 hW dX12_attach_40 ?_
  refine z_iconst (v := 1) dX12_attach_43 (by decide) ?_
  refine z_isub dX12_attach_44 ?_
  refine z_dup2 dX12_attach_45 ?_
  refine zr_ld hW (i := 7) rfl (by decide) (by decide) hz.ix hz.bd dX12_attach_46 ?_
  refine z_iconst (v := 1) dX12_attach_47 (by decide) ?_
  refine z_iadd dX12_attach_48 ?_
  show zS _ _ _ _ _ _ _ 49 _ _ _ _ _
  refine zr_st hW (i := 7) rfl (by decide) (by decide) hz.ix hz.bd dX12_attach_49 ?_
  refine z_ret dX12_attach_50 rfl ?_
  exact ⟨rfl, rfl, rfl, rfl, rfl⟩
/-- what is whole behind an expression is closed; 1 if another expression must follow -/
def pgo1 (M : zI) : Prop := pkind M (M 7 (ptop M)) = 15 ∧ M 8 (ptop M) = 1
def pgo2 (M : zI) : Prop := if pkind M (M 7 (ptop M)) = 16 then M 8 (ptop M) = 0 else M 8 (ptop M) < pparts (pkind M (M 7 (ptop M)))
def pgoC (M : zI) : zI := zup M 0 13 (M 0 13 - 1)
/-- an entry of the stack is closed; its node n, of kind k, becomes a part of the one below -/
def pgoD (M : zI) (n k : Int32) : zI := if 0 < pgoC M 0 13 ∧ ¬ k = 16 then pattach (pgoC M) n else pgoC M
def pgoes : Nat → zI → Int32 × zI
  | 0, M => (0, M)
  | j + 1, M => if ¬ 0 < M 0 13 then (0, M) else
      if pkind M (M 7 (ptop M)) = 15 ∧ M 8 (ptop M) = 1 then
        (if phere (pskip M) = 125 then pgoes j (pgoD (patn (pskip M)) (M 7 (ptop M)) (pkind M (M 7 (ptop M)))) else (1, pbclause (pskip M) (M 7 (ptop M))))
      else if (if pkind M (M 7 (ptop M)) = 16 then M 8 (ptop M) = 0 else M 8 (ptop M) < pparts (pkind M (M 7 (ptop M)))) then (1, M)
      else pgoes j (pgoD M (M 7 (ptop M)) (pkind M (M 7 (ptop M))))
def pgoDV (M : zI) (k : Int32) : Prop := 0 < tn (M 0 13) - 1 → ¬ k = 16 → iv 64990 (M 7 (tn (M 0 13) - 2)) ∧ iv 3 (M 8 (tn (M 0 13) - 2))
def pgoesV : Nat → zI → Prop
  | 0, _ => False
  | j + 1, M => pat M ∧ iv 131 (M 0 13) ∧ (0 < tn (M 0 13) → iv 65000 (M 7 (ptop M)) ∧
      (pkind M (M 7 (ptop M)) = 15 ∧ M 8 (ptop M) = 1 → (phere (pskip M) = 125 → pgoDV M (pkind M (M 7 (ptop M))) ∧ pgoesV j (pgoD (patn (pskip M)) (M 7 (ptop M)) (pkind M (M 7 (ptop M))))) ∧ (¬ phere (pskip M) = 125 → pbclauseV (pskip M) (M 7 (ptop M)))) ∧
      (¬ (pkind M (M 7 (ptop M)) = 15 ∧ M 8 (ptop M) = 1) → ¬ (if pkind M (M 7 (ptop M)) = 16 then M 8 (ptop M) = 0 else M 8 (ptop M) < pparts (pkind M (M 7 (ptop M)))) → pgoDV M (pkind M (M 7 (ptop M))) ∧ pgoesV j (pgoD M (M 7 (ptop M)) (pkind M (M 7 (ptop M))))))
