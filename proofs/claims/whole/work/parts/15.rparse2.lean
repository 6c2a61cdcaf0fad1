/-! The reference's reading of clauses and of a whole text. -/
def pbc1 (M : zI) : Int32 := if phere M = 58 then 6 else phere M - 65
/-- where a clause begins: what it is for may stand there -/
def pbcOk (M : zI) (h : Int32) : Prop := (phere M = 58 ∨ ¬ (phere M - 65 < 0 ∨ 5 < phere M - 65)) ∧ pclause M h (pbc1 M) = -9
def pbcC (N : zI) (h w a : Int32) : zI :=
  let c := N 0 1
  let M1 := pmake N 16 a
  let M2 := zup M1 1 (5 * tn c + 3) (M1 1 (5 * tn h + 3))
  let M3 := zup M2 1 (5 * tn c + 4) w
  zup M3 1 (5 * tn h + 3) c
def pbcD (N : zI) (h w a : Int32) (r : Prop) [Decidable r] : zI :=
  penter (pbcC N h w a) (N 0 1) (pbcC N h w a 9 (tn (pbcC N h w a 0 13) - 1) ||| (1 <<< (a &&& 31))) (if r then pbcC N h w a 10 (tn (pbcC N h w a 0 13) - 1) else h + 1)
def pbclause (M : zI) (h : Int32) : zI :=
  if (phere M = 58 ∨ ¬ (phere M - 65 < 0 ∨ 5 < phere M - 65)) ∧ pclause M h (pbc1 M) = -9 then
    (let q := ptake (patn M) 97 122; if q.2 0 15 = -9 then pbcD q.2 h (pbc1 M) q.1 (phere M = 58) else q.2)
  else pfails M
def pbclauseV (M : zI) (h : Int32) : Prop := pat M ∧ iv 65000 h ∧ pclOk M h ∧ iv 65000 (M 0 1) ∧ (iv 130 (M 0 13) ∧ 0 < tn (M 0 13))
theorem pbcC_0 {N : zI} {h w a : Int32} {c : Nat} (k1 : c ≠ 1) (k2 : c ≠ 16) : pbcC N h w a 0 c = N 0 c := by
  unfold pbcC
  rw [zup_r (show (0 : Nat) ≠ 1 by decide), zup_r (show (0 : Nat) ≠ 1 by decide), zup_r (show (0 : Nat) ≠ 1 by decide), pmake_0 k1 k2]
set_option maxRecDepth 20000 in
theorem Rt_X12_beginClause_t {l : Launch} {d : Nat} {D : zD} {b0 : Nat} {g : zG} {f M : zI} {o : Nat} (hW : RW b0 g o) (h w a : Int32) (hh : iv 65000 h) (hN : iv 65000 (M 0 1)) (hO : iv 130 (M 0 13)) (hO0 : 0 < tn (M 0 13)) (hd : 2 ≤ d) : zS l d D b0 mX12_beginClause 0 0 81 [some (.ref o), some (.int h), some (.int (1 : Int32)), some (.int w), some (.int a), none] [] g (rv o f M) (zq D b0 (zEx none g (rv o f (if M 0 15 = -9 then pbcD M h w a True else M)))) := by
  show zS _ _ _ _ _ _ _ 81 _ _ _ _ _
  have hN1 := hN.1
  have hh1 := hh.1
  have hO1 := hO.1
  have h13 : pbcC M h w a 0 13 = M 0 13 := pbcC_0 (by decide) (by decide)
  have hX : pbcC M h w a 0 13 - 1 = nI (tn (pbcC M h w a 0 13) - 1) := by rw [h13]; exact ixS hO.2 (ixC 1) (by omega)
  have hX1 : tn (pbcC M h w a 0 13) < 130 := by rw [h13]; exact hO1
  refine z_aload0 dX12_beginClause_81 ?_
  refine zr_getI fl_RX12_85 hW dX12_beginClause_82 ?_
  refine z_bipush (v := (-9)) dX12_beginClause_85 (by decide) ?_
  refine z_icmp_ne (tgt := 188) dX12_beginClause_87 (by decide) (fun c87 => ?_) (fun c87 => ?_)
  · show zS _ _ _ _ _ _ _ 188 _ _ _ _ _
    refine z_ret dX12_beginClause_188 rfl ?_
    first
      | (rw [if_neg c87]; exact ⟨rfl, rfl, rfl, rfl, rfl⟩)
      | (rw [if_pos c87]; refine ⟨rfl, rfl, ?_, rfl, rfl⟩; unfold pbcD; first | (rw [if_pos trivial]; rfl) | (rw [if_neg not_false]; rfl))
  · show zS _ _ _ _ _ _ _ 90 _ _ _ _ _
    refine z_aload0 dX12_beginClause_90 ?_
    refine z_bipush (v := 16) dX12_beginClause_91 (by decide) ?_
    refine z_iload4 dX12_beginClause_93 ?_
    refine z_callVi zmd_X12_make rfl (by decide) zl_RX12_114 zin_X12_make zsel_X12_make (R_X12_make (d := d - 1) hW _ _ hN) hW.o rfl rfl (by omega) rfl dX12_beginClause_95 ?_
    refine z_istore5 dX12_beginClause_98 ?_
    refine z_aload0 dX12_beginClause_100 ?_
    refine z_getRs fl_RX12_8 (by decide) hW.o (hW.r 0 rfl) dX12_beginClause_101 ?_
    refine z_iconst (v := 5) dX12_beginClause_104 (by decide) ?_
    refine z_iload5 dX12_beginClause_105 ?_
    refine z_imul dX12_beginClause_107 ?_
    refine z_iconst (v := 3) dX12_beginClause_108 (by decide) ?_
    show zS _ _ _ _ _ _ _ 109 _ _ _ _ _
    refine z_iadd dX12_beginClause_109 ?_
    refine z_aload0 dX12_beginClause_110 ?_
    refine z_getRs fl_RX12_8 (by decide) hW.o (hW.r 0 rfl) dX12_beginClause_111 ?_
    refine z_iconst (v := 5) dX12_beginClause_114 (by decide) ?_
    refine z_iload1 dX12_beginClause_115 ?_
    refine z_imul dX12_beginClause_116 ?_
    refine z_iconst (v := 3) dX12_beginClause_117 (by decide) ?_
    refine z_iadd dX12_beginClause_118 ?_
    refine zr_ld hW (i := 0) rfl (by decide) (by decide) (ixA (ixM (ixC 5) hh.2) (ixC 3)) (by omega) dX12_beginClause_119 ?_
    refine zr_st hW (i := 0) rfl (by decide) (by decide) (ixA (ixM (ixC 5) hN.2) (ixC 3)) (by omega) dX12_beginClause_120 ?_
    refine z_aload0 dX12_beginClause_121 ?_
    refine z_getRs fl_RX12_8 (by decide) hW.o (hW.r 0 rfl) dX12_beginClause_122 ?_
    show zS _ _ _ _ _ _ _ 125 _ _ _ _ _
    refine z_iconst (v := 5) dX12_beginClause_125 (by decide) ?_
    refine z_iload5 dX12_beginClause_126 ?_
    refine z_imul dX12_beginClause_128 ?_
    refine z_iconst (v := 4) dX12_beginClause_129 (by decide) ?_
    refine z_iadd dX12_beginClause_130 ?_
    refine z_iload3 dX12_beginClause_131 ?_
    refine zr_st hW (i := 0) rfl (by decide) (by decide) (ixA (ixM (ixC 5) hN.2) (ixC 4)) (by omega) dX12_beginClause_132 ?_
    refine z_aload0 dX12_beginClause_133 ?_
    refine z_getRs fl_RX12_8 (by decide) hW.o (hW.r 0 rfl) dX12_beginClause_134 ?_
    refine z_iconst (v := 5) dX12_beginClause_137 (by decide) ?_
    refine z_iload1 dX12_beginClause_138 ?_
    refine z_imul dX12_beginClause_139 ?_
    show zS _ _ _ _ _ _ _ 140 _ _ _ _ _
    refine z_iconst (v := 3) dX12_beginClause_140 (by decide) ?_
    refine z_iadd dX12_beginClause_141 ?_
    refine z_iload5 dX12_beginClause_142 ?_
    refine zr_st hW (i := 0) rfl (by decide) (by decide) (ixA (ixM (ixC 5) hh.2) (ixC 3)) (by omega) dX12_beginClause_144 ?_
    refine z_aload0 dX12_beginClause_145 ?_
    refine z_iload5 dX12_beginClause_146 ?_
    refine z_aload0 dX12_beginClause_148 ?_
    refine z_getRs fl_RX12_37 (by decide) hW.o (hW.r 8 rfl) dX12_beginClause_149 ?_
    refine z_aload0 dX12_beginClause_152 ?_
    refine zr_getI fl_RX12_108 hW dX12_beginClause_153 ?_
    refine z_iconst (v := 1) dX12_beginClause_156 (by decide) ?_
    refine z_isub dX12_beginClause_157 ?_
    show zS _ _ _ _ _ _ _ 158 _ _ _ _ _
    refine zr_ld hW (i := 8) rfl (by decide) (by decide) hX (by omega) dX12_beginClause_158 ?_
    refine z_iconst (v := 1) dX12_beginClause_159 (by decide) ?_
    refine z_iload4 dX12_beginClause_160 ?_
    refine z_ishl dX12_beginClause_162 ?_
    refine z_ior dX12_beginClause_163 ?_
    refine z_iload2 dX12_beginClause_164 ?_
    refine z_if_eq (tgt := 182) dX12_beginClause_165 (by decide) (fun c165 => ?_) (fun c165 => ?_)
    · exact absurd c165 (by decide)
    · show zS _ _ _ _ _ _ _ 168 _ _ _ _ _
      refine z_aload0 dX12_beginClause_168 ?_
      refine z_getRs fl_RX12_40 (by decide) hW.o (hW.r 9 rfl) dX12_beginClause_169 ?_
      refine z_aload0 dX12_beginClause_172 ?_
      refine zr_getI fl_RX12_108 hW dX12_beginClause_173 ?_
      refine z_iconst (v := 1) dX12_beginClause_176 (by decide) ?_
      refine z_isub dX12_beginClause_177 ?_
      refine zr_ld hW (i := 9) rfl (by decide) (by decide) hX (by omega) dX12_beginClause_178 ?_
      refine z_goto (tgt := 185) dX12_beginClause_179 (by decide) ?_
      show zS _ _ _ _ _ _ _ 185 _ _ _ _ _
      refine z_callVv zmd_X12_enter rfl (by decide) zl_RX12_127 zin_X12_enter zsel_X12_enter (R_X12_enter (d := d - 1) hW _ _ _ (by show iv 130 (pbcC M h w a 0 13); rw [h13]; exact hO)) hW.o rfl rfl (by omega) rfl dX12_beginClause_185 ?_
      refine z_ret dX12_beginClause_188 rfl ?_
      first
        | (rw [if_neg c87]; exact ⟨rfl, rfl, rfl, rfl, rfl⟩)
        | (rw [if_pos c87]; refine ⟨rfl, rfl, ?_, rfl, rfl⟩; unfold pbcD; first | (rw [if_pos trivial]; rfl) | (rw [if_neg not_false]; rfl))
set_option maxRecDepth 20000 in
theorem Rt_X12_beginClause_f {l : Launch} {d : Nat} {D : zD} {b0 : Nat} {g : zG} {f M : zI} {o : Nat} (hW : RW b0 g o) (h w a : Int32) (hh : iv 65000 h) (hN : iv 65000 (M 0 1)) (hO : iv 130 (M 0 13)) (hO0 : 0 < tn (M 0 13)) (hd : 2 ≤ d) : zS l d D b0 mX12_beginClause 0 0 81 [some (.ref o), some (.int h), some (.int (0 : Int32)), some (.int w), some (.int a), none] [] g (rv o f M) (zq D b0 (zEx none g (rv o f (if M 0 15 = -9 then pbcD M h w a False else M)))) := by
  show zS _ _ _ _ _ _ _ 81 _ _ _ _ _
  have hN1 := hN.1
  have hh1 := hh.1
  have hO1 := hO.1
  have h13 : pbcC M h w a 0 13 = M 0 13 := pbcC_0 (by decide) (by decide)
  have hX : pbcC M h w a 0 13 - 1 = nI (tn (pbcC M h w a 0 13) - 1) := by rw [h13]; exact ixS hO.2 (ixC 1) (by omega)
  have hX1 : tn (pbcC M h w a 0 13) < 130 := by rw [h13]; exact hO1
  refine z_aload0 dX12_beginClause_81 ?_
  refine zr_getI fl_RX12_85 hW dX12_beginClause_82 ?_
  refine z_bipush (v := (-9)) dX12_beginClause_85 (by decide) ?_
  refine z_icmp_ne (tgt := 188) dX12_beginClause_87 (by decide) (fun c87 => ?_) (fun c87 => ?_)
  · show zS _ _ _ _ _ _ _ 188 _ _ _ _ _
    refine z_ret dX12_beginClause_188 rfl ?_
    first
      | (rw [if_neg c87]; exact ⟨rfl, rfl, rfl, rfl, rfl⟩)
      | (rw [if_pos c87]; refine ⟨rfl, rfl, ?_, rfl, rfl⟩; unfold pbcD; first | (rw [if_pos trivial]; rfl) | (rw [if_neg not_false]; rfl))
  · show zS _ _ _ _ _ _ _ 90 _ _ _ _ _
    refine z_aload0 dX12_beginClause_90 ?_
    refine z_bipush (v := 16) dX12_beginClause_91 (by decide) ?_
    refine z_iload4 dX12_beginClause_93 ?_
    refine z_callVi zmd_X12_make rfl (by decide) zl_RX12_114 zin_X12_make zsel_X12_make (R_X12_make (d := d - 1) hW _ _ hN) hW.o rfl rfl (by omega) rfl dX12_beginClause_95 ?_
    refine z_istore5 dX12_beginClause_98 ?_
    refine z_aload0 dX12_beginClause_100 ?_
    refine z_getRs fl_RX12_8 (by decide) hW.o (hW.r 0 rfl) dX12_beginClause_101 ?_
    refine z_iconst (v := 5) dX12_beginClause_104 (by decide) ?_
    refine z_iload5 dX12_beginClause_105 ?_
    refine z_imul dX12_beginClause_107 ?_
    refine z_iconst (v := 3) dX12_beginClause_108 (by decide) ?_
    show zS _ _ _ _ _ _ _ 109 _ _ _ _ _
    refine z_iadd dX12_beginClause_109 ?_
    refine z_aload0 dX12_beginClause_110 ?_
    refine z_getRs fl_RX12_8 (by decide) hW.o (hW.r 0 rfl) dX12_beginClause_111 ?_
    refine z_iconst (v := 5) dX12_beginClause_114 (by decide) ?_
    refine z_iload1 dX12_beginClause_115 ?_
    refine z_imul dX12_beginClause_116 ?_
    refine z_iconst (v := 3) dX12_beginClause_117 (by decide) ?_
    refine z_iadd dX12_beginClause_118 ?_
    refine zr_ld hW (i := 0) rfl (by decide) (by decide) (ixA (ixM (ixC 5) hh.2) (ixC 3)) (by omega) dX12_beginClause_119 ?_
    refine zr_st hW (i := 0) rfl (by decide) (by decide) (ixA (ixM (ixC 5) hN.2) (ixC 3)) (by omega) dX12_beginClause_120 ?_
    refine z_aload0 dX12_beginClause_121 ?_
    refine z_getRs fl_RX12_8 (by decide) hW.o (hW.r 0 rfl) dX12_beginClause_122 ?_
    show zS _ _ _ _ _ _ _ 125 _ _ _ _ _
    refine z_iconst (v := 5) dX12_beginClause_125 (by decide) ?_
    refine z_iload5 dX12_beginClause_126 ?_
    refine z_imul dX12_beginClause_128 ?_
    refine z_iconst (v := 4) dX12_beginClause_129 (by decide) ?_
    refine z_iadd dX12_beginClause_130 ?_
    refine z_iload3 dX12_beginClause_131 ?_
    refine zr_st hW (i := 0) rfl (by decide) (by decide) (ixA (ixM (ixC 5) hN.2) (ixC 4)) (by omega) dX12_beginClause_132 ?_
    refine z_aload0 dX12_beginClause_133 ?_
    refine z_getRs fl_RX12_8 (by decide) hW.o (hW.r 0 rfl) dX12_beginClause_134 ?_
    refine z_iconst (v := 5) dX12_beginClause_137 (by decide) ?_
    refine z_iload1 dX12_beginClause_138 ?_
    refine z_imul dX12_beginClause_139 ?_
    show zS _ _ _ _ _ _ _ 140 _ _ _ _ _
    refine z_iconst (v := 3) dX12_beginClause_140 (by decide) ?_
    refine z_iadd dX12_beginClause_141 ?_
    refine z_iload5 dX12_beginClause_142 ?_
    refine zr_st hW (i := 0) rfl (by decide) (by decide) (ixA (ixM (ixC 5) hh.2) (ixC 3)) (by omega) dX12_beginClause_144 ?_
    refine z_aload0 dX12_beginClause_145 ?_
    refine z_iload5 dX12_beginClause_146 ?_
    refine z_aload0 dX12_beginClause_148 ?_
    refine z_getRs fl_RX12_37 (by decide) hW.o (hW.r 8 rfl) dX12_beginClause_149 ?_
    refine z_aload0 dX12_beginClause_152 ?_
    refine zr_getI fl_RX12_108 hW dX12_beginClause_153 ?_
    refine z_iconst (v := 1) dX12_beginClause_156 (by decide) ?_
    refine z_isub dX12_beginClause_157 ?_
    show zS _ _ _ _ _ _ _ 158 _ _ _ _ _
    refine zr_ld hW (i := 8) rfl (by decide) (by decide) hX (by omega) dX12_beginClause_158 ?_
    refine z_iconst (v := 1) dX12_beginClause_159 (by decide) ?_
    refine z_iload4 dX12_beginClause_160 ?_
    refine z_ishl dX12_beginClause_162 ?_
    refine z_ior dX12_beginClause_163 ?_
    refine z_iload2 dX12_beginClause_164 ?_
    refine z_if_eq (tgt := 182) dX12_beginClause_165 (by decide) (fun c165 => ?_) (fun c165 => ?_)
    · show zS _ _ _ _ _ _ _ 182 _ _ _ _ _
      refine z_iload1 dX12_beginClause_182 ?_
      refine z_iconst (v := 1) dX12_beginClause_183 (by decide) ?_
      refine z_iadd dX12_beginClause_184 ?_
      refine z_callVv zmd_X12_enter rfl (by decide) zl_RX12_127 zin_X12_enter zsel_X12_enter (R_X12_enter (d := d - 1) hW _ _ _ (by show iv 130 (pbcC M h w a 0 13); rw [h13]; exact hO)) hW.o rfl rfl (by omega) rfl dX12_beginClause_185 ?_
      refine z_ret dX12_beginClause_188 rfl ?_
      first
        | (rw [if_neg c87]; exact ⟨rfl, rfl, rfl, rfl, rfl⟩)
        | (rw [if_pos c87]; refine ⟨rfl, rfl, ?_, rfl, rfl⟩; unfold pbcD; first | (rw [if_pos trivial]; rfl) | (rw [if_neg not_false]; rfl))
    · exact absurd rfl c165
theorem pbclause_no {M : zI} {h : Int32} (q : ¬ ((phere M = 58 ∨ ¬ (phere M - 65 < 0 ∨ 5 < phere M - 65)) ∧ pclause M h (pbc1 M) = -9)) : pbclause M h = pfails M := if_neg q
theorem pbclause_yes {M : zI} {h : Int32} (q : (phere M = 58 ∨ ¬ (phere M - 65 < 0 ∨ 5 < phere M - 65)) ∧ pclause M h (pbc1 M) = -9) : pbclause M h = (if (ptake (patn M) 97 122).2 0 15 = -9 then pbcD (ptake (patn M) 97 122).2 h (pbc1 M) (ptake (patn M) 97 122).1 (phere M = 58) else (ptake (patn M) 97 122).2) := if_pos q
theorem phere_ne {M : zI} (h : ¬ phere M = 0) : M 0 14 < M 0 8 := by
  rcases Decidable.em (M 0 14 < M 0 8) with q | q
  · exact q
  · exact absurd (phere_0 q) h
set_option maxRecDepth 20000 in
theorem Rt_X12_beginClause_15t {l : Launch} {d : Nat} {D : zD} {b0 : Nat} {g : zG} {f M : zI} {o : Nat} (hW : RW b0 g o) (h : Int32) (hV : pbclauseV M h) (c6 : phere M = 58) (hd : 2 ≤ d) : zS l d D b0 mX12_beginClause 0 0 15 [some (.ref o), some (.int h), some (.int (1 : Int32)), none, none, none] [] g (rv o f M) (zq D b0 (zEx none g (rv o f (pbclause M h)))) := by
  obtain ⟨hp, hh, hc, hN, hO⟩ := hV
  show zS _ _ _ _ _ _ _ 15 _ _ _ _ _
  refine z_iload2 dX12_beginClause_15 ?_
  refine z_if_eq (tgt := 24) dX12_beginClause_16 (by decide) (fun c16 => ?_) (fun c16 => ?_)
  · exact absurd c16 (by decide)
  · show zS _ _ _ _ _ _ _ 19 _ _ _ _ _
    refine z_bipush (v := 6) dX12_beginClause_19 (by decide) ?_
    refine z_goto (tgt := 31) dX12_beginClause_21 (by decide) ?_
    show zS _ _ _ _ _ _ _ 31 _ _ _ _ _
    refine z_istore3 dX12_beginClause_31 ?_
    refine z_iload2 dX12_beginClause_32 ?_
    refine z_if_ne (tgt := 45) dX12_beginClause_33 (by decide) (fun c33 => ?_) (fun c33 => ?_)
    · show zS _ _ _ _ _ _ _ 45 _ _ _ _ _
      refine z_aload0 dX12_beginClause_45 ?_
      refine z_iload1 dX12_beginClause_46 ?_
      refine z_iload3 dX12_beginClause_47 ?_
      refine z_callVi zmd_X12_clause rfl (by decide) zl_RX12_131 zin_X12_clause zsel_X12_clause (R_X12_clause (d := d - 1) hW _ _ hh hc) hW.o rfl rfl (by omega) rfl dX12_beginClause_48 ?_
      refine z_bipush (v := (-9)) dX12_beginClause_51 (by decide) ?_
      refine z_icmp_eq (tgt := 61) dX12_beginClause_53 (by decide) (fun c53 => ?_) (fun c53 => ?_)
      · show zS _ _ _ _ _ _ _ 61 _ _ _ _ _
        have hlt : M 0 14 < M 0 8 := phere_ne (by rw [c6]; decide)
        have hp3 := hp.next hlt
        rw [pbclause_yes ⟨Or.inl c6, by rw [show pbc1 M = 6 from if_pos c6]; exact c53⟩]
        refine z_aload0 dX12_beginClause_61 ?_
        refine z_dup dX12_beginClause_62 ?_
        refine zr_getI fl_RX12_82 hW dX12_beginClause_63 ?_
        refine z_iconst (v := 1) dX12_beginClause_66 (by decide) ?_
        refine z_iadd dX12_beginClause_67 ?_
        refine zr_putI fl_RX12_82 hW dX12_beginClause_68 ?_
        refine z_aload0 dX12_beginClause_71 ?_
        refine z_bipush (v := 97) dX12_beginClause_72 (by decide) ?_
        refine z_bipush (v := 122) dX12_beginClause_74 (by decide) ?_
        refine z_callVi zmd_X12_take rfl (by decide) zl_RX12_104 zin_X12_take zsel_X12_take (R_X12_take (d := d - 1) hW _ _ hp3 (by decide) (by omega)) hW.o rfl rfl (by omega) rfl dX12_beginClause_76 ?_
        refine z_istore4 dX12_beginClause_79 ?_
        show zS _ _ _ _ _ _ _ 81 _ _ _ _ _
        have e1 : (ptake (patn M) 97 122).2 0 1 = M 0 1 := (ptake_0 (by decide) (by decide)).trans (zup_ne _ _ _ _ (Or.inr (by decide)))
        have e13 : (ptake (patn M) 97 122).2 0 13 = M 0 13 := (ptake_0 (by decide) (by decide)).trans (zup_ne _ _ _ _ (Or.inr (by decide)))
        have K := Rt_X12_beginClause_t (l := l) (D := D) (f := f) (M := (ptake (patn M) 97 122).2) hW h (pbc1 M) (ptake (patn M) 97 122).1 hh (by rw [e1]; exact hN) (by rw [e13]; exact hO.1) (by rw [e13]; exact hO.2) (show 2 ≤ d by omega)
        have eD : ∀ N w a, pbcD N h w a (phere M = 58) = pbcD N h w a True := by
          intro N w a
          unfold pbcD
          rw [if_pos c6, if_pos trivial]
        rw [eD]
        rw [show pbc1 M = 6 from if_pos c6] at K ⊢
        exact K
      · show zS _ _ _ _ _ _ _ 56 _ _ _ _ _
        refine z_aload0 dX12_beginClause_56 ?_
        refine z_callVv zmd_X12_fails rfl (by decide) zl_RX12_101 zin_X12_fails zsel_X12_fails (R_X12_fails (d := d - 1) hW ) hW.o rfl rfl (by omega) rfl dX12_beginClause_57 ?_
        refine z_ret dX12_beginClause_60 rfl ?_
        rw [pbclause_no (by first | exact fun q => c53 (by have e := q.2; rw [show pbc1 M = 6 from if_pos c6] at e; exact e) | exact fun q => c53 (by have e := q.2; rw [show pbc1 M = phere M - 65 from if_neg c6] at e; exact e) | exact fun q => q.1.elim c6 (fun q => q (zBno c42)))]
        exact ⟨rfl, rfl, rfl, rfl, rfl⟩
    · exact absurd c33 (by decide)
set_option maxRecDepth 20000 in
theorem Rt_X12_beginClause_15f {l : Launch} {d : Nat} {D : zD} {b0 : Nat} {g : zG} {f M : zI} {o : Nat} (hW : RW b0 g o) (h : Int32) (hV : pbclauseV M h) (c6 : ¬ phere M = 58) (hd : 2 ≤ d) : zS l d D b0 mX12_beginClause 0 0 15 [some (.ref o), some (.int h), some (.int (0 : Int32)), none, none, none] [] g (rv o f M) (zq D b0 (zEx none g (rv o f (pbclause M h)))) := by
  obtain ⟨hp, hh, hc, hN, hO⟩ := hV
  show zS _ _ _ _ _ _ _ 15 _ _ _ _ _
  refine z_iload2 dX12_beginClause_15 ?_
  refine z_if_eq (tgt := 24) dX12_beginClause_16 (by decide) (fun c16 => ?_) (fun c16 => ?_)
  · show zS _ _ _ _ _ _ _ 24 _ _ _ _ _
    refine z_aload0 dX12_beginClause_24 ?_
    refine z_callVi zmd_X12_here rfl (by decide) zl_RX12_97 zin_X12_here zsel_X12_here (R_X12_here (d := d - 1) hW hp) hW.o rfl rfl (by omega) rfl dX12_beginClause_25 ?_
    refine z_bipush (v := 65) dX12_beginClause_28 (by decide) ?_
    refine z_isub dX12_beginClause_30 ?_
    refine z_istore3 dX12_beginClause_31 ?_
    refine z_iload2 dX12_beginClause_32 ?_
    refine z_if_ne (tgt := 45) dX12_beginClause_33 (by decide) (fun c33 => ?_) (fun c33 => ?_)
    · exact absurd rfl c33
    · show zS _ _ _ _ _ _ _ 36 _ _ _ _ _
      refine z_iload3 dX12_beginClause_36 ?_
      refine z_iconst (v := 0) dX12_beginClause_37 (by decide) ?_
      refine z_iconst (v := 5) dX12_beginClause_38 (by decide) ?_
      refine z_callSi zmd_X12_isIn zl_RX12_74 zst_X12_isIn (R_X12_isIn (d := d - 1) hW _ _ _) rfl rfl (by omega) rfl dX12_beginClause_39 ?_
      refine z_if_eq (tgt := 56) dX12_beginClause_42 (by decide) (fun c42 => ?_) (fun c42 => ?_)
      · show zS _ _ _ _ _ _ _ 56 _ _ _ _ _
        refine z_aload0 dX12_beginClause_56 ?_
        refine z_callVv zmd_X12_fails rfl (by decide) zl_RX12_101 zin_X12_fails zsel_X12_fails (R_X12_fails (d := d - 1) hW ) hW.o rfl rfl (by omega) rfl dX12_beginClause_57 ?_
        refine z_ret dX12_beginClause_60 rfl ?_
        rw [pbclause_no (by first | exact fun q => c53 (by have e := q.2; rw [show pbc1 M = 6 from if_pos c6] at e; exact e) | exact fun q => c53 (by have e := q.2; rw [show pbc1 M = phere M - 65 from if_neg c6] at e; exact e) | exact fun q => q.1.elim c6 (fun q => q (zBno c42)))]
        exact ⟨rfl, rfl, rfl, rfl, rfl⟩
      · show zS _ _ _ _ _ _ _ 45 _ _ _ _ _
        refine z_aload0 dX12_beginClause_45 ?_
        refine z_iload1 dX12_beginClause_46 ?_
        refine z_iload3 dX12_beginClause_47 ?_
        refine z_callVi zmd_X12_clause rfl (by decide) zl_RX12_131 zin_X12_clause zsel_X12_clause (R_X12_clause (d := d - 1) hW _ _ hh hc) hW.o rfl rfl (by omega) rfl dX12_beginClause_48 ?_
        refine z_bipush (v := (-9)) dX12_beginClause_51 (by decide) ?_
        refine z_icmp_eq (tgt := 61) dX12_beginClause_53 (by decide) (fun c53 => ?_) (fun c53 => ?_)
        · show zS _ _ _ _ _ _ _ 61 _ _ _ _ _
          have hno := zByes c42
          have hlt : M 0 14 < M 0 8 := phere_ne (fun q => hno (Or.inl (by rw [q]; decide)))
          have hp3 := hp.next hlt
          rw [pbclause_yes ⟨Or.inr hno, by rw [show pbc1 M = phere M - 65 from if_neg c6]; exact c53⟩]
          refine z_aload0 dX12_beginClause_61 ?_
          refine z_dup dX12_beginClause_62 ?_
          refine zr_getI fl_RX12_82 hW dX12_beginClause_63 ?_
          refine z_iconst (v := 1) dX12_beginClause_66 (by decide) ?_
          refine z_iadd dX12_beginClause_67 ?_
          refine zr_putI fl_RX12_82 hW dX12_beginClause_68 ?_
          refine z_aload0 dX12_beginClause_71 ?_
          refine z_bipush (v := 97) dX12_beginClause_72 (by decide) ?_
          refine z_bipush (v := 122) dX12_beginClause_74 (by decide) ?_
          refine z_callVi zmd_X12_take rfl (by decide) zl_RX12_104 zin_X12_take zsel_X12_take (R_X12_take (d := d - 1) hW _ _ hp3 (by decide) (by omega)) hW.o rfl rfl (by omega) rfl dX12_beginClause_76 ?_
          refine z_istore4 dX12_beginClause_79 ?_
          show zS _ _ _ _ _ _ _ 81 _ _ _ _ _
          have e1 : (ptake (patn M) 97 122).2 0 1 = M 0 1 := (ptake_0 (by decide) (by decide)).trans (zup_ne _ _ _ _ (Or.inr (by decide)))
          have e13 : (ptake (patn M) 97 122).2 0 13 = M 0 13 := (ptake_0 (by decide) (by decide)).trans (zup_ne _ _ _ _ (Or.inr (by decide)))
          have K := Rt_X12_beginClause_f (l := l) (D := D) (f := f) (M := (ptake (patn M) 97 122).2) hW h (pbc1 M) (ptake (patn M) 97 122).1 hh (by rw [e1]; exact hN) (by rw [e13]; exact hO.1) (by rw [e13]; exact hO.2) (show 2 ≤ d by omega)
          have eD : ∀ N w a, pbcD N h w a (phere M = 58) = pbcD N h w a False := by
            intro N w a
            unfold pbcD
            rw [if_neg c6, if_neg not_false]
          rw [eD]
          rw [show pbc1 M = phere M - 65 from if_neg c6] at K ⊢
          exact K
        · show zS _ _ _ _ _ _ _ 56 _ _ _ _ _
          refine z_aload0 dX12_beginClause_56 ?_
          refine z_callVv zmd_X12_fails rfl (by decide) zl_RX12_101 zin_X12_fails zsel_X12_fails (R_X12_fails (d := d - 1) hW ) hW.o rfl rfl (by omega) rfl dX12_beginClause_57 ?_
          refine z_ret dX12_beginClause_60 rfl ?_
          rw [pbclause_no (by first | exact fun q => c53 (by have e := q.2; rw [show pbc1 M = 6 from if_pos c6] at e; exact e) | exact fun q => c53 (by have e := q.2; rw [show pbc1 M = phere M - 65 from if_neg c6] at e; exact e) | exact fun q => q.1.elim c6 (fun q => q (zBno c42)))]
          exact ⟨rfl, rfl, rfl, rfl, rfl⟩
  · exact absurd rfl c16
set_option maxRecDepth 20000 in
theorem R_X12_beginClause {l : Launch} {d : Nat} {D : zD} {b0 : Nat} {g : zG} {f M : zI} {o : Nat} (hW : RW b0 g o) (h : Int32) (hV : pbclauseV M h) (hd : 2 ≤ d) : zM l d D b0 mX12_beginClause [.ref o, .int h] g (rv o f M) (zEx none g (rv o f (pbclause M h))) := by
  refine zM.start zmd_X12_beginClause (Nat.le_of_ble_eq_true rfl) ⟨rfl, rfl, trivial⟩ [some (.ref o), some (.int h), none, none, none, none] rfl ?_
  refine z_aload0 dX12_beginClause_0 ?_
  refine z_callVi zmd_X12_here rfl (by decide) zl_RX12_97 zin_X12_here zsel_X12_here (R_X12_here (d := d - 1) hW hV.1) hW.o rfl rfl (by omega) rfl dX12_beginClause_1 ?_
  refine z_bipush (v := 58) dX12_beginClause_4 (by decide) ?_
  refine z_icmp_ne (tgt := 13) dX12_beginClause_6 (by decide) (fun c6 => ?_) (fun c6 => ?_)
  · show zS _ _ _ _ _ _ _ 13 _ _ _ _ _
    refine z_iconst (v := 0) dX12_beginClause_13 (by decide) ?_
    refine z_istore2 dX12_beginClause_14 ?_
    first | exact Rt_X12_beginClause_15t hW h hV c6 hd | exact Rt_X12_beginClause_15f hW h hV c6 hd
  · show zS _ _ _ _ _ _ _ 9 _ _ _ _ _
    refine z_iconst (v := 1) dX12_beginClause_9 (by decide) ?_
    refine z_goto (tgt := 14) dX12_beginClause_10 (by decide) ?_
    show zS _ _ _ _ _ _ _ 14 _ _ _ _ _
    refine z_istore2 dX12_beginClause_14 ?_
    first | exact Rt_X12_beginClause_15t hW h hV c6 hd | exact Rt_X12_beginClause_15f hW h hV c6 hd
def ptop (M : zI) : Nat := tn (M 0 13) - 1
def pboundNext (M : zI) : Int32 := M 9 (ptop M) ||| (if pkind M (M 7 (ptop M)) = 8 ∧ M 8 (ptop M) = 1 then 1 <<< (parg M (M 7 (ptop M)) &&& 31) else 0)
def pattach (M : zI) (x : Int32) : zI :=
  let M1 := zup M 1 (5 * tn (M 7 (ptop M)) + 2 + tn (M 8 (ptop M))) x
  zup M1 8 (ptop M) (M1 8 (ptop M) + 1)
def pnz (M : zI) : Prop := iv 131 (M 0 13) ∧ 0 < tn (M 0 13)
theorem pnz.ix {M : zI} (h : pnz M) : M 0 13 - 1 = nI (ptop M) := ixS h.1.2 (ixC 1) h.2
theorem pnz.bd {M : zI} (h : pnz M) : ptop M < 130 := by have := h.1.1; have := h.2; unfold ptop; omega
set_option maxRecDepth 20000 in
theorem R_X12_boundNext {l : Launch} {d : Nat} {D : zD} {b0 : Nat} {g : zG} {f M : zI} {o : Nat} (hW : RW b0 g o) (hz : pnz M) (hn : iv 65000 (M 7 (ptop M))) (hd : 1 ≤ d) : zM l d D b0 mX12_boundNext [.ref o] g (rv o f M) (zEx (some (.int (pboundNext M))) g (rv o f M)) := by
  refine zM.start zmd_X12_boundNext (Nat.le_of_ble_eq_true rfl) ⟨rfl, trivial⟩ [some (.ref o), none, none] rfl ?_
  refine z_aload0 dX12_boundNext_0 ?_
  refine z_getRs fl_RX12_31 (by decide) hW.o (hW.r 6 rfl) dX12_boundNext_1 ?_
  refine z_aload0 dX12_boundNext_4 ?_
  refine zr_getI fl_RX12_108 hW dX12_boundNext_5 ?_
  refine z_iconst (v := 1) dX12_boundNext_8 (by decide) ?_
  refine z_isub dX12_boundNext_9 ?_
  refine zr_ld hW (i := 6) rfl (by decide) (by decide) hz.ix hz.bd dX12_boundNext_10 ?_
  refine z_istore1 dX12_boundNext_11 ?_
  refine z_aload0 dX12_boundNext_12 ?_
  refine z_iload1 dX12_boundNext_13 ?_
  refine z_callVi zmd_X12_kind rfl (by decide) zl_RX12_134 zin_X12_kind zsel_X12_kind (R_X12_kind (d := d - 1) hW _ hn) hW.o rfl rfl (by omega) rfl dX12_boundNext_14 ?_
  show zS _ _ _ _ _ _ _ 17 _ _ _ _ _
  refine z_bipush (v := 8) dX12_boundNext_17 (by decide) ?_
  refine z_icmp_ne (tgt := 41) dX12_boundNext_19 (by decide) (fun c19 => ?_) (fun c19 => ?_)
  · show zS _ _ _ _ _ _ _ 41 _ _ _ _ _
    refine z_iconst (v := 0) dX12_boundNext_41 (by decide) ?_
    refine z_istore2 dX12_boundNext_42 ?_
    refine z_aload0 dX12_boundNext_43 ?_
    refine z_getRs fl_RX12_37 (by decide) hW.o (hW.r 8 rfl) dX12_boundNext_44 ?_
    refine z_aload0 dX12_boundNext_47 ?_
    refine zr_getI fl_RX12_108 hW dX12_boundNext_48 ?_
    refine z_iconst (v := 1) dX12_boundNext_51 (by decide) ?_
    refine z_isub dX12_boundNext_52 ?_
    refine zr_ld hW (i := 8) rfl (by decide) (by decide) hz.ix hz.bd dX12_boundNext_53 ?_
    refine z_iload2 dX12_boundNext_54 ?_
    refine z_if_eq (tgt := 68) dX12_boundNext_55 (by decide) (fun c55 => ?_) (fun c55 => ?_)
    · show zS _ _ _ _ _ _ _ 68 _ _ _ _ _
      refine z_iconst (v := 0) dX12_boundNext_68 (by decide) ?_
      refine z_ior dX12_boundNext_69 ?_
      refine z_iret dX12_boundNext_70 rfl ?_
      first | exact absurd rfl c55 | exact absurd c55 (by decide) | (refine ⟨congrArg (fun z => some (Value.int (M 9 (ptop M) ||| z))) ?_, rfl, rfl, rfl, rfl⟩; first | exact (if_pos ⟨by assumption, by assumption⟩).symm | exact (if_neg (fun q => absurd q.1 (by assumption))).symm | exact (if_neg (fun q => absurd q.2 (by assumption))).symm)
    · show zS _ _ _ _ _ _ _ 58 _ _ _ _ _
      refine z_iconst (v := 1) dX12_boundNext_58 (by decide) ?_
      refine z_aload0 dX12_boundNext_59 ?_
      refine z_iload1 dX12_boundNext_60 ?_
      refine z_callVi zmd_X12_argument rfl (by decide) zl_RX12_137 zin_X12_argument zsel_X12_argument (R_X12_argument (d := d - 1) hW _ hn) hW.o rfl rfl (by omega) rfl dX12_boundNext_61 ?_
      refine z_ishl dX12_boundNext_64 ?_
      refine z_goto (tgt := 69) dX12_boundNext_65 (by decide) ?_
      show zS _ _ _ _ _ _ _ 69 _ _ _ _ _
      refine z_ior dX12_boundNext_69 ?_
      refine z_iret dX12_boundNext_70 rfl ?_
      first | exact absurd rfl c55 | exact absurd c55 (by decide) | (refine ⟨congrArg (fun z => some (Value.int (M 9 (ptop M) ||| z))) ?_, rfl, rfl, rfl, rfl⟩; first | exact (if_pos ⟨by assumption, by assumption⟩).symm | exact (if_neg (fun q => absurd q.1 (by assumption))).symm | exact (if_neg (fun q => absurd q.2 (by assumption))).symm)
  · show zS _ _ _ _ _ _ _ 22 _ _ _ _ _
    refine z_aload0 dX12_boundNext_22 ?_
    refine z_getRs fl_RX12_34 (by decide) hW.o (hW.r 7 rfl) dX12_boundNext_23 ?_
    refine z_aload0 dX12_boundNext_26 ?_
    refine zr_getI fl_RX12_108 hW dX12_boundNext_27 ?_
    refine z_iconst (v := 1) dX12_boundNext_30 (by decide) ?_
    refine z_isub dX12_boundNext_31 ?_
    refine zr_ld hW (i := 7) rfl (by decide) (by decide) hz.ix hz.bd dX12_boundNext_32 ?_
    refine z_iconst (v := 1) dX12_boundNext_33 (by decide) ?_
    refine z_icmp_ne (tgt := 41) dX12_boundNext_34 (by decide) (fun c34 => ?_) (fun c34 => ?_)
    · show zS _ _ _ _ _ _ _ 41 _ _ _ _ _
      refine z_iconst (v := 0) dX12_boundNext_41 (by decide) ?_
      refine z_istore2 dX12_boundNext_42 ?_
      refine z_aload0 dX12_boundNext_43 ?_
      refine z_getRs fl_RX12_37 (by decide) hW.o (hW.r 8 rfl) dX12_boundNext_44 ?_
      refine z_aload0 dX12_boundNext_47 ?_
      refine zr_getI fl_RX12_108 hW dX12_boundNext_48 ?_
      refine z_iconst (v := 1) dX12_boundNext_51 (by decide) ?_
      refine z_isub dX12_boundNext_52 ?_
      refine zr_ld hW (i := 8) rfl (by decide) (by decide) hz.ix hz.bd dX12_boundNext_53 ?_
      refine z_iload2 dX12_boundNext_54 ?_
      refine z_if_eq (tgt := 68) dX12_boundNext_55 (by decide) (fun c55 => ?_) (fun c55 => ?_)
      · show zS _ _ _ _ _ _ _ 68 _ _ _ _ _
        refine z_iconst (v := 0) dX12_boundNext_68 (by decide) ?_
        refine z_ior dX12_boundNext_69 ?_
        refine z_iret dX12_boundNext_70 rfl ?_
        first | exact absurd rfl c55 | exact absurd c55 (by decide) | (refine ⟨congrArg (fun z => some (Value.int (M 9 (ptop M) ||| z))) ?_, rfl, rfl, rfl, rfl⟩; first | exact (if_pos ⟨by assumption, by assumption⟩).symm | exact (if_neg (fun q => absurd q.1 (by assumption))).symm | exact (if_neg (fun q => absurd q.2 (by assumption))).symm)
      · show zS _ _ _ _ _ _ _ 58 _ _ _ _ _
        refine z_iconst (v := 1) dX12_boundNext_58 (by decide) ?_
        refine z_aload0 dX12_boundNext_59 ?_
        refine z_iload1 dX12_boundNext_60 ?_
        refine z_callVi zmd_X12_argument rfl (by decide) zl_RX12_137 zin_X12_argument zsel_X12_argument (R_X12_argument (d := d - 1) hW _ hn) hW.o rfl rfl (by omega) rfl dX12_boundNext_61 ?_
        refine z_ishl dX12_boundNext_64 ?_
        refine z_goto (tgt := 69) dX12_boundNext_65 (by decide) ?_
        show zS _ _ _ _ _ _ _ 69 _ _ _ _ _
        refine z_ior dX12_boundNext_69 ?_
        refine z_iret dX12_boundNext_70 rfl ?_
        first | exact absurd rfl c55 | exact absurd c55 (by decide) | (refine ⟨congrArg (fun z => some (Value.int (M 9 (ptop M) ||| z))) ?_, rfl, rfl, rfl, rfl⟩; first | exact (if_pos ⟨by assumption, by assumption⟩).symm | exact (if_neg (fun q => absurd q.1 (by assumption))).symm | exact (if_neg (fun q => absurd q.2 (by assumption))).symm)
    · show zS _ _ _ _ _ _ _ 37 _ _ _ _ _
      refine z_iconst (v := 1) dX12_boundNext_37 (by decide) ?_
      refine z_goto (tgt := 42) dX12_boundNext_38 (by decide) ?_
      show zS _ _ _ _ _ _ _ 42 _ _ _ _ _
      refine z_istore2 dX12_boundNext_42 ?_
      refine z_aload0 dX12_boundNext_43 ?_
      refine z_getRs fl_RX12_37 (by decide) hW.o (hW.r 8 rfl) dX12_boundNext_44 ?_
      refine z_aload0 dX12_boundNext_47 ?_
      refine zr_getI fl_RX12_108 hW dX12_boundNext_48 ?_
      refine z_iconst (v := 1) dX12_boundNext_51 (by decide) ?_
      refine z_isub dX12_boundNext_52 ?_
      refine zr_ld hW (i := 8) rfl (by decide) (by decide) hz.ix hz.bd dX12_boundNext_53 ?_
      refine z_iload2 dX12_boundNext_54 ?_
      refine z_if_eq (tgt := 68) dX12_boundNext_55 (by decide) (fun c55 => ?_) (fun c55 => ?_)
      · show zS _ _ _ _ _ _ _ 68 _ _ _ _ _
        refine z_iconst (v := 0) dX12_boundNext_68 (by decide) ?_
        refine z_ior dX12_boundNext_69 ?_
        refine z_iret dX12_boundNext_70 rfl ?_
        first | exact absurd rfl c55 | exact absurd c55 (by decide) | (refine ⟨congrArg (fun z => some (Value.int (M 9 (ptop M) ||| z))) ?_, rfl, rfl, rfl, rfl⟩; first | exact (if_pos ⟨by assumption, by assumption⟩).symm | exact (if_neg (fun q => absurd q.1 (by assumption))).symm | exact (if_neg (fun q => absurd q.2 (by assumption))).symm)
      · show zS _ _ _ _ _ _ _ 58 _ _ _ _ _
        refine z_iconst (v := 1) dX12_boundNext_58 (by decide) ?_
        refine z_aload0 dX12_boundNext_59 ?_
        refine z_iload1 dX12_boundNext_60 ?_
        refine z_callVi zmd_X12_argument rfl (by decide) zl_RX12_137 zin_X12_argument zsel_X12_argument (R_X12_argument (d := d - 1) hW _ hn) hW.o rfl rfl (by omega) rfl dX12_boundNext_61 ?_
        refine z_ishl dX12_boundNext_64 ?_
        refine z_goto (tgt := 69) dX12_boundNext_65 (by decide) ?_
        show zS _ _ _ _ _ _ _ 69 _ _ _ _ _
        refine z_ior dX12_boundNext_69 ?_
        refine z_iret dX12_boundNext_70 rfl ?_
        first | exact absurd rfl c55 | exact absurd c55 (by decide) | (refine ⟨congrArg (fun z => some (Value.int (M 9 (ptop M) ||| z))) ?_, rfl, rfl, rfl, rfl⟩; first | exact (if_pos ⟨by assumption, by assumption⟩).symm | exact (if_neg (fun q => absurd q.1 (by assumption))).symm | exact (if_neg (fun q => absurd q.2 (by assumption))).symm)
set_option maxRecDepth 20000 in
theorem R_X12_attach {l : Launch} {d : Nat} {D : zD} {b0 : Nat} {g : zG} {f M : zI} {o : Nat} (hW : RW b0 g o) (x : Int32) (hz : pnz M) (hn : iv 64990 (M 7 (ptop M))) (hs : iv 3 (M 8 (ptop M))) : zM l d D b0 mX12_attach [.ref o, .int x] g (rv o f M) (zEx none g (rv o f (pattach M x))) := by
  refine zM.start zmd_X12_attach (Nat.le_of_ble_eq_true rfl) ⟨rfl, rfl, trivial⟩ [some (.ref o), some (.int x), none] rfl ?_
  refine z_aload0 dX12_attach_0 ?_
  refine z_getRs fl_RX12_31 (by decide) hW.o (hW.r 6 rfl) dX12_attach_1 ?_
  refine z_aload0 dX12_attach_4 ?_
  refine zr_getI fl_RX12_108 hW dX12_attach_5 ?_
  refine z_iconst (v := 1) dX12_attach_8 (by decide) ?_
  refine z_isub dX12_attach_9 ?_
  refine zr_ld hW (i := 6) rfl (by decide) (by decide) hz.ix hz.bd dX12_attach_10 ?_
  refine z_istore2 dX12_attach_11 ?_
  refine z_aload0 dX12_attach_12 ?_
  refine z_getRs fl_RX12_8 (by decide) hW.o (hW.r 0 rfl) dX12_attach_13 ?_
  refine z_iconst (v := 5) dX12_attach_16 (by decide) ?_
  show zS _ _ _ _ _ _ _ 17 _ _ _ _ _
  refine z_iload2 dX12_attach_17 ?_
  refine z_imul dX12_attach_18 ?_
  refine z_iconst (v := 2) dX12_attach_19 (by decide) ?_
  refine z_iadd dX12_attach_20 ?_
  refine z_aload0 dX12_attach_21 ?_
  refine z_getRs fl_RX12_34 (by decide) hW.o (hW.r 7 rfl) dX12_attach_22 ?_
  refine z_aload0 dX12_attach_25 ?_
  refine zr_getI fl_RX12_108 hW dX12_attach_26 ?_
  refine z_iconst (v := 1) dX12_attach_29 (by decide) ?_
  refine z_isub dX12_attach_30 ?_
  refine zr_ld hW (i := 7) rfl (by decide) (by decide) hz.ix hz.bd dX12_attach_31 ?_
  refine z_iadd dX12_attach_32 ?_
  show zS _ _ _ _ _ _ _ 33 _ _ _ _ _
  refine z_iload1 dX12_attach_33 ?_
  have hn1 := hn.1
  have hs1 := hs.1
  refine zr_st hW (i := 0) rfl (by decide) (by decide) (ixA (ixA (ixM (ixC 5) hn.2) (ixC 2)) hs.2) (by omega) dX12_attach_34 ?_
  refine z_aload0 dX12_attach_35 ?_
  refine z_getRs fl_RX12_34 (by decide) hW.o (hW.r 7 rfl) dX12_attach_36 ?_
  refine z_aload0 dX12_attach_39 ?_
  refine zr_getI fl_RX12_108 hW dX12_attach_40 ?_
  refine z_iconst (v := 1) dX12_attach_43 (by decide) ?_
  refine z_isub dX12_attach_44 ?_
  refine z_dup2 dX12_attach_45 ?_
  refine zr_ld hW (i := 7) rfl (by decide) (by decide) hz.ix hz.bd dX12_attach_46 ?_
  refine z_iconst (v := 1) dX12_attach_47 (by decide) ?_
  refine z_iadd dX12_attach_48 ?_
  show zS _ _ _ _ _ _ _ 49 _ _ _ _ _
  refine zr_st hW (i := 7) rfl (by decide) (by decide) hz.ix hz.bd dX12_attach_49 ?_
  refine z_ret dX12_attach_50 rfl ?_
  exact ⟨rfl, rfl, rfl, rfl, rfl⟩
/-- what is whole behind an expression is closed; 1 if another expression must follow -/
def pgo1 (M : zI) : Prop := pkind M (M 7 (ptop M)) = 15 ∧ M 8 (ptop M) = 1
def pgo2 (M : zI) : Prop := if pkind M (M 7 (ptop M)) = 16 then M 8 (ptop M) = 0 else M 8 (ptop M) < pparts (pkind M (M 7 (ptop M)))
def pgoC (M : zI) : zI := zup M 0 13 (M 0 13 - 1)
/-- an entry of the stack is closed; its node n, of kind k, becomes a part of the one below -/
def pgoD (M : zI) (n k : Int32) : zI := if 0 < pgoC M 0 13 ∧ ¬ k = 16 then pattach (pgoC M) n else pgoC M
def pgoes : Nat → zI → Int32 × zI
  | 0, M => (0, M)
  | j + 1, M => if ¬ 0 < M 0 13 then (0, M) else
      if pkind M (M 7 (ptop M)) = 15 ∧ M 8 (ptop M) = 1 then
        (if phere (pskip M) = 125 then pgoes j (pgoD (patn (pskip M)) (M 7 (ptop M)) (pkind M (M 7 (ptop M)))) else (1, pbclause (pskip M) (M 7 (ptop M))))
      else if (if pkind M (M 7 (ptop M)) = 16 then M 8 (ptop M) = 0 else M 8 (ptop M) < pparts (pkind M (M 7 (ptop M)))) then (1, M)
      else pgoes j (pgoD M (M 7 (ptop M)) (pkind M (M 7 (ptop M))))
def pgoDV (M : zI) (k : Int32) : Prop := 0 < tn (M 0 13) - 1 → ¬ k = 16 → iv 64990 (M 7 (tn (M 0 13) - 2)) ∧ iv 3 (M 8 (tn (M 0 13) - 2))
def pgoesV : Nat → zI → Prop
  | 0, _ => False
  | j + 1, M => pat M ∧ iv 131 (M 0 13) ∧ (0 < tn (M 0 13) → iv 65000 (M 7 (ptop M)) ∧
      (pkind M (M 7 (ptop M)) = 15 ∧ M 8 (ptop M) = 1 → (phere (pskip M) = 125 → pgoDV M (pkind M (M 7 (ptop M))) ∧ pgoesV j (pgoD (patn (pskip M)) (M 7 (ptop M)) (pkind M (M 7 (ptop M))))) ∧ (¬ phere (pskip M) = 125 → pbclauseV (pskip M) (M 7 (ptop M)))) ∧
      (¬ (pkind M (M 7 (ptop M)) = 15 ∧ M 8 (ptop M) = 1) → ¬ (if pkind M (M 7 (ptop M)) = 16 then M 8 (ptop M) = 0 else M 8 (ptop M) < pparts (pkind M (M 7 (ptop M)))) → pgoDV M (pkind M (M 7 (ptop M))) ∧ pgoesV j (pgoD M (M 7 (ptop M)) (pkind M (M 7 (ptop M))))))
theorem pgoC_top {M : zI} (hz : pnz M) : tn (pgoC M 0 13) = ptop M ∧ pgoC M 0 13 = nI (ptop M) := by
  have e : pgoC M 0 13 = nI (ptop M) := hz.ix
  exact ⟨by rw [e]; exact tn_nI (by have := hz.bd; omega), e⟩
theorem pgoC_row {M : zI} {r : Nat} (h : r ≠ 0) : pgoC M r = M r := zup_r h
theorem pgoC_nz {M : zI} (hz : pnz M) (c : 0 < pgoC M 0 13) : pnz (pgoC M) ∧ 0 < tn (M 0 13) - 1 ∧ ptop (pgoC M) = tn (M 0 13) - 2 := by
  obtain ⟨e1, e2⟩ := pgoC_top hz
  have h0 : 0 < ptop M := by
    rcases Nat.eq_zero_or_pos (ptop M) with q | q
    · rw [e2, q] at c; exact absurd c (by decide)
    · exact q
  have hb := hz.bd
  refine ⟨⟨by rw [e2]; exact iv_nI (by omega) (by decide), by rw [e1]; exact h0⟩, h0, ?_⟩
  unfold ptop
  rw [e1]
  unfold ptop
  omega
set_option maxRecDepth 20000 in
theorem Rt_X12_goesOn_122 {l : Launch} {d : Nat} {D : zD} {b0 : Nat} {g : zG} {f M : zI} {o : Nat} (hW : RW b0 g o) (n k : Int32) (hz : pnz M) (hV : pgoDV M k) (hd : 1 ≤ d) (Q : Nat → Nat → zKT → Prop) (kk : zS l d D b0 mX12_goesOn 0 0 0 [some (.ref o), some (.int n), some (.int k)] [] g (rv o f (pgoD M n k)) Q) : zS l d D b0 mX12_goesOn 0 0 122 [some (.ref o), some (.int n), some (.int k)] [] g (rv o f M) Q := by
  show zS _ _ _ _ _ _ _ 122 _ _ _ _ _
  refine z_aload0 dX12_goesOn_122 ?_
  refine z_dup dX12_goesOn_123 ?_
  refine zr_getI fl_RX12_108 hW dX12_goesOn_124 ?_
  refine z_iconst (v := 1) dX12_goesOn_127 (by decide) ?_
  refine z_isub dX12_goesOn_128 ?_
  refine zr_putI fl_RX12_108 hW dX12_goesOn_129 ?_
  refine z_aload0 dX12_goesOn_132 ?_
  refine zr_getI fl_RX12_108 hW dX12_goesOn_133 ?_
  refine z_if_le (tgt := 150) dX12_goesOn_136 (by decide) (fun c136 => ?_) (fun c136 => ?_)
  · show zS _ _ _ _ _ _ _ 150 _ _ _ _ _
    first
      | (rw [show pgoD M n k = pgoC M from if_neg (fun q => absurd q.1 (Int32.not_lt.mpr (Int32.not_lt.mp c136)))] at kk; exact z_goto (tgt := 0) dX12_goesOn_150 (by decide) kk)
      | (rw [show pgoD M n k = pgoC M from if_neg (fun q => absurd c142 q.2)] at kk; exact z_goto (tgt := 0) dX12_goesOn_150 (by decide) kk)
      | (rw [show pgoD M n k = pattach (pgoC M) n from if_pos ⟨c136, c142⟩] at kk; exact z_goto (tgt := 0) dX12_goesOn_150 (by decide) kk)
  · show zS _ _ _ _ _ _ _ 139 _ _ _ _ _
    have hc := pgoC_nz hz c136
    refine z_iload2 dX12_goesOn_139 ?_
    refine z_bipush (v := 16) dX12_goesOn_140 (by decide) ?_
    refine z_icmp_eq (tgt := 150) dX12_goesOn_142 (by decide) (fun c142 => ?_) (fun c142 => ?_)
    · show zS _ _ _ _ _ _ _ 150 _ _ _ _ _
      first
        | (rw [show pgoD M n k = pgoC M from if_neg (fun q => absurd q.1 (Int32.not_lt.mpr (Int32.not_lt.mp c136)))] at kk; exact z_goto (tgt := 0) dX12_goesOn_150 (by decide) kk)
        | (rw [show pgoD M n k = pgoC M from if_neg (fun q => absurd c142 q.2)] at kk; exact z_goto (tgt := 0) dX12_goesOn_150 (by decide) kk)
        | (rw [show pgoD M n k = pattach (pgoC M) n from if_pos ⟨c136, c142⟩] at kk; exact z_goto (tgt := 0) dX12_goesOn_150 (by decide) kk)
    · show zS _ _ _ _ _ _ _ 145 _ _ _ _ _
      refine z_aload0 dX12_goesOn_145 ?_
      refine z_iload1 dX12_goesOn_146 ?_
      refine z_callVv zmd_X12_attach rfl (by decide) zl_RX12_147 zin_X12_attach zsel_X12_attach (R_X12_attach (d := d - 1) hW _ hc.1 (show iv 64990 (pgoC M 7 (ptop (pgoC M))) from by rw [hc.2.2, pgoC_row (by decide)]; exact (hV hc.2.1 c142).1) (show iv 3 (pgoC M 8 (ptop (pgoC M))) from by rw [hc.2.2, pgoC_row (by decide)]; exact (hV hc.2.1 c142).2)) hW.o rfl rfl (by omega) rfl dX12_goesOn_147 ?_
      first
        | (rw [show pgoD M n k = pgoC M from if_neg (fun q => absurd q.1 (Int32.not_lt.mpr (Int32.not_lt.mp c136)))] at kk; exact z_goto (tgt := 0) dX12_goesOn_150 (by decide) kk)
        | (rw [show pgoD M n k = pgoC M from if_neg (fun q => absurd c142 q.2)] at kk; exact z_goto (tgt := 0) dX12_goesOn_150 (by decide) kk)
        | (rw [show pgoD M n k = pattach (pgoC M) n from if_pos ⟨c136, c142⟩] at kk; exact z_goto (tgt := 0) dX12_goesOn_150 (by decide) kk)
set_option maxRecDepth 20000 in
set_option maxHeartbeats 2000000 in
theorem Rl_X12_goesOn {l : Launch} {d : Nat} {D : zD} {b0 : Nat} {g : zG} {f : zI} {o : Nat} (hW : RW b0 g o) (hd : 3 ≤ d) : ∀ (j : Nat) (M : zI) (x1 x2 : Option Value), pgoesV j M → zS l d D b0 mX12_goesOn 0 0 0 [some (.ref o), x1, x2] [] g (rv o f M) (zq D b0 (zEx (some (.int (pgoes j M).1)) g (rv o f (pgoes j M).2))) := by
  intro j
  induction j with
  | zero => intro M x1 x2 hV; exact absurd hV id
  | succ j ih =>
    intro M x1 x2 hV
    refine z_aload0 dX12_goesOn_0 ?_
    refine zr_getI fl_RX12_108 hW dX12_goesOn_1 ?_
    refine z_if_le (tgt := 153) dX12_goesOn_4 (by decide) (fun c4 => ?_) (fun c4 => ?_)
    · show zS _ _ _ _ _ _ _ 153 _ _ _ _ _
      refine z_iconst (v := 0) dX12_goesOn_153 (by decide) ?_
      refine z_iret dX12_goesOn_154 rfl ?_
      rw [show pgoes (j + 1) M = (0, M) from if_pos c4]
      exact ⟨rfl, rfl, rfl, rfl, rfl⟩
    · show zS _ _ _ _ _ _ _ 7 _ _ _ _ _
      have h0 : 0 < tn (M 0 13) := by
        rcases Nat.eq_zero_or_pos (tn (M 0 13)) with q | q
        · have e := hV.2.1.2; rw [q] at e; rw [e] at c4; exact absurd c4 (by decide)
        · exact q
      have hz : pnz M := ⟨hV.2.1, h0⟩
      obtain ⟨hn, hA, hB⟩ := hV.2.2 h0
      have hj : pgoes (j + 1) M = _ := if_neg (fun q => q c4)
      refine z_aload0 dX12_goesOn_7 ?_
      refine z_getRs fl_RX12_31 (by decide) hW.o (hW.r 6 rfl) dX12_goesOn_8 ?_
      refine z_aload0 dX12_goesOn_11 ?_
      refine zr_getI fl_RX12_108 hW dX12_goesOn_12 ?_
      refine z_iconst (v := 1) dX12_goesOn_15 (by decide) ?_
      refine z_isub dX12_goesOn_16 ?_
      refine zr_ld hW (i := 6) rfl (by decide) (by decide) hz.ix hz.bd dX12_goesOn_17 ?_
      refine z_istore1 dX12_goesOn_18 ?_
      refine z_aload0 dX12_goesOn_19 ?_
      refine z_iload1 dX12_goesOn_20 ?_
      refine z_callVi zmd_X12_kind rfl (by decide) zl_RX12_134 zin_X12_kind zsel_X12_kind (R_X12_kind (d := d - 1) hW _ hn) hW.o rfl rfl (by omega) rfl dX12_goesOn_21 ?_
      show zS _ _ _ _ _ _ _ 24 _ _ _ _ _
      refine z_istore2 dX12_goesOn_24 ?_
      refine z_iload2 dX12_goesOn_25 ?_
      refine z_bipush (v := 15) dX12_goesOn_26 (by decide) ?_
      refine z_icmp_ne (tgt := 79) dX12_goesOn_28 (by decide) (fun c28 => ?_) (fun c28 => ?_)
      · show zS _ _ _ _ _ _ _ 79 _ _ _ _ _
        have hN15 : ¬ (pkind M (M 7 (ptop M)) = 15 ∧ M 8 (ptop M) = 1) := by first | exact fun q => c28 q.1 | exact fun q => c43 q.2
        have hj2 : pgoes (j + 1) M = _ := hj.trans (if_neg hN15)
        refine z_iload2 dX12_goesOn_79 ?_
        refine z_bipush (v := 16) dX12_goesOn_80 (by decide) ?_
        refine z_icmp_ne (tgt := 102) dX12_goesOn_82 (by decide) (fun c82 => ?_) (fun c82 => ?_)
        · show zS _ _ _ _ _ _ _ 102 _ _ _ _ _
          refine z_aload0 dX12_goesOn_102 ?_
          refine z_getRs fl_RX12_34 (by decide) hW.o (hW.r 7 rfl) dX12_goesOn_103 ?_
          refine z_aload0 dX12_goesOn_106 ?_
          refine zr_getI fl_RX12_108 hW dX12_goesOn_107 ?_
          refine z_iconst (v := 1) dX12_goesOn_110 (by decide) ?_
          refine z_isub dX12_goesOn_111 ?_
          refine zr_ld hW (i := 7) rfl (by decide) (by decide) hz.ix hz.bd dX12_goesOn_112 ?_
          refine z_iload2 dX12_goesOn_113 ?_
          refine z_callSi zmd_X12_parts zl_RX12_144 zst_X12_parts (R_X12_parts (d := d - 1) hW _) rfl rfl (by omega) rfl dX12_goesOn_114 ?_
          refine z_icmp_ge (tgt := 122) dX12_goesOn_117 (by decide) (fun c117 => ?_) (fun c117 => ?_)
          · show zS _ _ _ _ _ _ _ 122 _ _ _ _ _
            first
              | exact Rt_X12_goesOn_122 (M := patn (pskip M)) hW _ _ hzs hA4 (by omega) _ (ih (pgoD (patn (pskip M)) (M 7 (ptop M)) (pkind M (M 7 (ptop M)))) _ _ hA3.2)
              | (have hN2 : ¬ (if pkind M (M 7 (ptop M)) = 16 then M 8 (ptop M) = 0 else M 8 (ptop M) < pparts (pkind M (M 7 (ptop M)))) := by first | (rw [if_pos c82]; exact c96) | (rw [if_neg c82]; exact c117)
                 rw [show pgoes (j + 1) M = _ from hj2.trans (if_neg hN2)]
                 exact Rt_X12_goesOn_122 (M := M) hW _ _ hz (hB hN15 hN2).1 (by omega) _ (ih (pgoD M (M 7 (ptop M)) (pkind M (M 7 (ptop M)))) _ _ (hB hN15 hN2).2))
          · show zS _ _ _ _ _ _ _ 120 _ _ _ _ _
            refine z_iconst (v := 1) dX12_goesOn_120 (by decide) ?_
            refine z_iret dX12_goesOn_121 rfl ?_
            have e : pgoes (j + 1) M = (1, M) := hj2.trans (if_pos (by first | (rw [if_pos c82]; exact c96) | (rw [if_neg c82]; exact c117)))
            rw [e]
            exact ⟨rfl, rfl, rfl, rfl, rfl⟩
        · show zS _ _ _ _ _ _ _ 85 _ _ _ _ _
          refine z_aload0 dX12_goesOn_85 ?_
          refine z_getRs fl_RX12_34 (by decide) hW.o (hW.r 7 rfl) dX12_goesOn_86 ?_
          refine z_aload0 dX12_goesOn_89 ?_
          refine zr_getI fl_RX12_108 hW dX12_goesOn_90 ?_
          refine z_iconst (v := 1) dX12_goesOn_93 (by decide) ?_
          refine z_isub dX12_goesOn_94 ?_
          refine zr_ld hW (i := 7) rfl (by decide) (by decide) hz.ix hz.bd dX12_goesOn_95 ?_
          refine z_if_ne (tgt := 122) dX12_goesOn_96 (by decide) (fun c96 => ?_) (fun c96 => ?_)
          · show zS _ _ _ _ _ _ _ 122 _ _ _ _ _
            first
              | exact Rt_X12_goesOn_122 (M := patn (pskip M)) hW _ _ hzs hA4 (by omega) _ (ih (pgoD (patn (pskip M)) (M 7 (ptop M)) (pkind M (M 7 (ptop M)))) _ _ hA3.2)
              | (have hN2 : ¬ (if pkind M (M 7 (ptop M)) = 16 then M 8 (ptop M) = 0 else M 8 (ptop M) < pparts (pkind M (M 7 (ptop M)))) := by first | (rw [if_pos c82]; exact c96) | (rw [if_neg c82]; exact c117)
                 rw [show pgoes (j + 1) M = _ from hj2.trans (if_neg hN2)]
                 exact Rt_X12_goesOn_122 (M := M) hW _ _ hz (hB hN15 hN2).1 (by omega) _ (ih (pgoD M (M 7 (ptop M)) (pkind M (M 7 (ptop M)))) _ _ (hB hN15 hN2).2))
          · show zS _ _ _ _ _ _ _ 99 _ _ _ _ _
            refine z_goto (tgt := 120) dX12_goesOn_99 (by decide) ?_
            show zS _ _ _ _ _ _ _ 120 _ _ _ _ _
            refine z_iconst (v := 1) dX12_goesOn_120 (by decide) ?_
            refine z_iret dX12_goesOn_121 rfl ?_
            have e : pgoes (j + 1) M = (1, M) := hj2.trans (if_pos (by first | (rw [if_pos c82]; exact c96) | (rw [if_neg c82]; exact c117)))
            rw [e]
            exact ⟨rfl, rfl, rfl, rfl, rfl⟩
      · show zS _ _ _ _ _ _ _ 31 _ _ _ _ _
        refine z_aload0 dX12_goesOn_31 ?_
        refine z_getRs fl_RX12_34 (by decide) hW.o (hW.r 7 rfl) dX12_goesOn_32 ?_
        refine z_aload0 dX12_goesOn_35 ?_
        refine zr_getI fl_RX12_108 hW dX12_goesOn_36 ?_
        refine z_iconst (v := 1) dX12_goesOn_39 (by decide) ?_
        refine z_isub dX12_goesOn_40 ?_
        refine zr_ld hW (i := 7) rfl (by decide) (by decide) hz.ix hz.bd dX12_goesOn_41 ?_
        refine z_iconst (v := 1) dX12_goesOn_42 (by decide) ?_
        refine z_icmp_ne (tgt := 79) dX12_goesOn_43 (by decide) (fun c43 => ?_) (fun c43 => ?_)
        · show zS _ _ _ _ _ _ _ 79 _ _ _ _ _
          have hN15 : ¬ (pkind M (M 7 (ptop M)) = 15 ∧ M 8 (ptop M) = 1) := by first | exact fun q => c28 q.1 | exact fun q => c43 q.2
          have hj2 : pgoes (j + 1) M = _ := hj.trans (if_neg hN15)
          refine z_iload2 dX12_goesOn_79 ?_
          refine z_bipush (v := 16) dX12_goesOn_80 (by decide) ?_
          refine z_icmp_ne (tgt := 102) dX12_goesOn_82 (by decide) (fun c82 => ?_) (fun c82 => ?_)
          · show zS _ _ _ _ _ _ _ 102 _ _ _ _ _
            refine z_aload0 dX12_goesOn_102 ?_
            refine z_getRs fl_RX12_34 (by decide) hW.o (hW.r 7 rfl) dX12_goesOn_103 ?_
            refine z_aload0 dX12_goesOn_106 ?_
            refine zr_getI fl_RX12_108 hW dX12_goesOn_107 ?_
            refine z_iconst (v := 1) dX12_goesOn_110 (by decide) ?_
            refine z_isub dX12_goesOn_111 ?_
            refine zr_ld hW (i := 7) rfl (by decide) (by decide) hz.ix hz.bd dX12_goesOn_112 ?_
            refine z_iload2 dX12_goesOn_113 ?_
            refine z_callSi zmd_X12_parts zl_RX12_144 zst_X12_parts (R_X12_parts (d := d - 1) hW _) rfl rfl (by omega) rfl dX12_goesOn_114 ?_
            refine z_icmp_ge (tgt := 122) dX12_goesOn_117 (by decide) (fun c117 => ?_) (fun c117 => ?_)
            · show zS _ _ _ _ _ _ _ 122 _ _ _ _ _
              first
                | exact Rt_X12_goesOn_122 (M := patn (pskip M)) hW _ _ hzs hA4 (by omega) _ (ih (pgoD (patn (pskip M)) (M 7 (ptop M)) (pkind M (M 7 (ptop M)))) _ _ hA3.2)
                | (have hN2 : ¬ (if pkind M (M 7 (ptop M)) = 16 then M 8 (ptop M) = 0 else M 8 (ptop M) < pparts (pkind M (M 7 (ptop M)))) := by first | (rw [if_pos c82]; exact c96) | (rw [if_neg c82]; exact c117)
                   rw [show pgoes (j + 1) M = _ from hj2.trans (if_neg hN2)]
                   exact Rt_X12_goesOn_122 (M := M) hW _ _ hz (hB hN15 hN2).1 (by omega) _ (ih (pgoD M (M 7 (ptop M)) (pkind M (M 7 (ptop M)))) _ _ (hB hN15 hN2).2))
            · show zS _ _ _ _ _ _ _ 120 _ _ _ _ _
              refine z_iconst (v := 1) dX12_goesOn_120 (by decide) ?_
              refine z_iret dX12_goesOn_121 rfl ?_
              have e : pgoes (j + 1) M = (1, M) := hj2.trans (if_pos (by first | (rw [if_pos c82]; exact c96) | (rw [if_neg c82]; exact c117)))
              rw [e]
              exact ⟨rfl, rfl, rfl, rfl, rfl⟩
          · show zS _ _ _ _ _ _ _ 85 _ _ _ _ _
            refine z_aload0 dX12_goesOn_85 ?_
            refine z_getRs fl_RX12_34 (by decide) hW.o (hW.r 7 rfl) dX12_goesOn_86 ?_
            refine z_aload0 dX12_goesOn_89 ?_
            refine zr_getI fl_RX12_108 hW dX12_goesOn_90 ?_
            refine z_iconst (v := 1) dX12_goesOn_93 (by decide) ?_
            refine z_isub dX12_goesOn_94 ?_
            refine zr_ld hW (i := 7) rfl (by decide) (by decide) hz.ix hz.bd dX12_goesOn_95 ?_
            refine z_if_ne (tgt := 122) dX12_goesOn_96 (by decide) (fun c96 => ?_) (fun c96 => ?_)
            · show zS _ _ _ _ _ _ _ 122 _ _ _ _ _
              first
                | exact Rt_X12_goesOn_122 (M := patn (pskip M)) hW _ _ hzs hA4 (by omega) _ (ih (pgoD (patn (pskip M)) (M 7 (ptop M)) (pkind M (M 7 (ptop M)))) _ _ hA3.2)
                | (have hN2 : ¬ (if pkind M (M 7 (ptop M)) = 16 then M 8 (ptop M) = 0 else M 8 (ptop M) < pparts (pkind M (M 7 (ptop M)))) := by first | (rw [if_pos c82]; exact c96) | (rw [if_neg c82]; exact c117)
                   rw [show pgoes (j + 1) M = _ from hj2.trans (if_neg hN2)]
                   exact Rt_X12_goesOn_122 (M := M) hW _ _ hz (hB hN15 hN2).1 (by omega) _ (ih (pgoD M (M 7 (ptop M)) (pkind M (M 7 (ptop M)))) _ _ (hB hN15 hN2).2))
            · show zS _ _ _ _ _ _ _ 99 _ _ _ _ _
              refine z_goto (tgt := 120) dX12_goesOn_99 (by decide) ?_
              show zS _ _ _ _ _ _ _ 120 _ _ _ _ _
              refine z_iconst (v := 1) dX12_goesOn_120 (by decide) ?_
              refine z_iret dX12_goesOn_121 rfl ?_
              have e : pgoes (j + 1) M = (1, M) := hj2.trans (if_pos (by first | (rw [if_pos c82]; exact c96) | (rw [if_neg c82]; exact c117)))
              rw [e]
              exact ⟨rfl, rfl, rfl, rfl, rfl⟩
        · show zS _ _ _ _ _ _ _ 46 _ _ _ _ _
          refine z_aload0 dX12_goesOn_46 ?_
          have hA2 := hA ⟨c28, c43⟩
          rw [show pgoes (j + 1) M = _ from hj.trans (if_pos ⟨c28, c43⟩)]
          refine z_callVv zmd_X12_skip rfl (by decide) zl_RX12_94 zin_X12_skip zsel_X12_skip (R_X12_skip (d := d - 1) hW hV.1) hW.o rfl rfl (by omega) rfl dX12_goesOn_47 ?_
          refine z_aload0 dX12_goesOn_50 ?_
          refine z_callVi zmd_X12_here rfl (by decide) zl_RX12_97 zin_X12_here zsel_X12_here (R_X12_here (d := d - 1) hW hV.1.skip) hW.o rfl rfl (by omega) rfl dX12_goesOn_51 ?_
          refine z_bipush (v := 125) dX12_goesOn_54 (by decide) ?_
          refine z_icmp_eq (tgt := 66) dX12_goesOn_56 (by decide) (fun c56 => ?_) (fun c56 => ?_)
          · show zS _ _ _ _ _ _ _ 66 _ _ _ _ _
            have hA3 := hA2.1 c56
            have hlt : pskip M 0 14 < pskip M 0 8 := phere_ne (by rw [c56]; decide)
            have hzs : pnz (patn (pskip M)) := by
              have e : patn (pskip M) 0 13 = M 0 13 := (zup_ne _ _ _ _ (Or.inr (by decide))).trans (pskip_0 (by decide))
              exact ⟨by rw [e]; exact hz.1, by rw [e]; exact hz.2⟩
            rw [if_pos c56]
            have hA4 : pgoDV (patn (pskip M)) (pkind M (M 7 (ptop M))) := by
              intro q1 q2
              have e : patn (pskip M) 0 13 = M 0 13 := (zup_ne _ _ _ _ (Or.inr (by decide))).trans (pskip_0 (by decide))
              have er : ∀ r, r ≠ 0 → patn (pskip M) r = M r := fun r h => (zup_r h).trans (pskip_row h)
              rw [e] at q1 ⊢
              rw [er 7 (by decide), er 8 (by decide)]
              exact hA3.1 q1 q2
            refine z_aload0 dX12_goesOn_66 ?_
            refine z_dup dX12_goesOn_67 ?_
            refine zr_getI fl_RX12_82 hW dX12_goesOn_68 ?_
            refine z_iconst (v := 1) dX12_goesOn_71 (by decide) ?_
            refine z_iadd dX12_goesOn_72 ?_
            refine zr_putI fl_RX12_82 hW dX12_goesOn_73 ?_
            refine z_goto (tgt := 122) dX12_goesOn_76 (by decide) ?_
            show zS _ _ _ _ _ _ _ 122 _ _ _ _ _
            first
              | exact Rt_X12_goesOn_122 (M := patn (pskip M)) hW _ _ hzs hA4 (by omega) _ (ih (pgoD (patn (pskip M)) (M 7 (ptop M)) (pkind M (M 7 (ptop M)))) _ _ hA3.2)
              | (have hN2 : ¬ (if pkind M (M 7 (ptop M)) = 16 then M 8 (ptop M) = 0 else M 8 (ptop M) < pparts (pkind M (M 7 (ptop M)))) := by first | (rw [if_pos c82]; exact c96) | (rw [if_neg c82]; exact c117)
                 rw [show pgoes (j + 1) M = _ from hj2.trans (if_neg hN2)]
                 exact Rt_X12_goesOn_122 (M := M) hW _ _ hz (hB hN15 hN2).1 (by omega) _ (ih (pgoD M (M 7 (ptop M)) (pkind M (M 7 (ptop M)))) _ _ (hB hN15 hN2).2))
          · show zS _ _ _ _ _ _ _ 59 _ _ _ _ _
            refine z_aload0 dX12_goesOn_59 ?_
            refine z_iload1 dX12_goesOn_60 ?_
            refine z_callVv zmd_X12_beginClause rfl (by decide) zl_RX12_140 zin_X12_beginClause zsel_X12_beginClause (R_X12_beginClause (d := d - 1) hW _ (hA2.2 c56) (by omega)) hW.o rfl rfl (by omega) rfl dX12_goesOn_61 ?_
            refine z_iconst (v := 1) dX12_goesOn_64 (by decide) ?_
            refine z_iret dX12_goesOn_65 rfl ?_
            rw [if_neg c56]
            exact ⟨rfl, rfl, rfl, rfl, rfl⟩
def pgf : Nat := 300
theorem pgoes_01 : ∀ (j : Nat) (M : zI), (pgoes j M).1 = 0 ∨ (pgoes j M).1 = 1 := by
  intro j
  induction j with
  | zero => intro M; exact Or.inl rfl
  | succ j ih =>
    intro M
    unfold pgoes
    refine zite01 _ _ _ (Or.inl rfl) (zite01 _ _ _ (zite01 _ _ _ (ih _) (Or.inr rfl)) (zite01 _ _ _ (Or.inr rfl) (ih _)))
set_option maxRecDepth 20000 in
theorem R_X12_goesOn {l : Launch} {d : Nat} {D : zD} {b0 : Nat} {g : zG} {f M : zI} {o : Nat} (hW : RW b0 g o) (j : Nat) (hV : pgoesV j M) (hd : 3 ≤ d) : zM l d D b0 mX12_goesOn [.ref o] g (rv o f M) (zEx (some (.int ((pgoes j M).1))) g (rv o f ((pgoes j M).2))) := by
  refine zM.start zmd_X12_goesOn (Nat.le_of_ble_eq_true rfl) ⟨rfl, trivial⟩ [some (.ref o), none, none] rfl ?_
  exact Rl_X12_goesOn hW hd j M none none hV
/-- the loop of parse: how the text is read, whether there is more -/
def pparV0 (M : zI) (how : Int32) : Int32 := if M 0 13 = 0 then (if how = 1 then 8388608 else 0) else pboundNext M
def pparR0 (M : zI) : Int32 := if M 0 13 = 0 then 0 else M 10 (ptop M)
def pparB (M : zI) (how : Int32) : Int32 × zI := pbegins M (pparV0 M how) (pparR0 M)
def pparT (N : zI) : zI := if 0 < N 0 13 then pattach N (N 0 17) else N
def ppar (how : Int32) : Nat → Int32 → zI → zI
  | 0, _, M => M
  | j + 1, more, M => if more = 0 then M else if ¬ M 0 15 = -9 then M else
      if (pparB M how).2 0 15 = -9 ∧ ¬ (pparB M how).1 = 0 then ppar how j (pgoes pgf (pparT (pparB M how).2)).1 (pgoes pgf (pparT (pparB M how).2)).2
      else ppar how j more (pparB M how).2
def pparV (how : Int32) : Nat → Int32 → zI → Prop
  | 0, _, _ => False
  | j + 1, more, M => ¬ more = 0 → M 0 15 = -9 → pbeginsV M ∧ (¬ M 0 13 = 0 → pnz M ∧ iv 65000 (M 7 (ptop M))) ∧
      ((pparB M how).2 0 15 = -9 ∧ ¬ (pparB M how).1 = 0 → (0 < (pparB M how).2 0 13 → pnz (pparB M how).2 ∧ iv 64990 ((pparB M how).2 7 (ptop (pparB M how).2)) ∧ iv 3 ((pparB M how).2 8 (ptop (pparB M how).2))) ∧ pgoesV pgf (pparT (pparB M how).2) ∧
        pparV how j (pgoes pgf (pparT (pparB M how).2)).1 (pgoes pgf (pparT (pparB M how).2)).2) ∧
      (¬ ((pparB M how).2 0 15 = -9 ∧ ¬ (pparB M how).1 = 0) → pparV how j more (pparB M how).2)
set_option maxRecDepth 20000 in
theorem Rt_X12_parse_98 {l : Launch} {d : Nat} {D : zD} {b0 : Nat} {g : zG} {f M : zI} {o : Nat} (hW : RW b0 g o) (how x2 more x4 r : Int32) (hd : 4 ≤ d) (Q : Nat → Nat → zKT → Prop)
    (hV : M 0 15 = -9 ∧ ¬ r = 0 → (0 < M 0 13 → pnz M ∧ iv 64990 (M 7 (ptop M)) ∧ iv 3 (M 8 (ptop M))) ∧ pgoesV pgf (pparT M))
    (kk1 : M 0 15 = -9 ∧ ¬ r = 0 → zS l d D b0 mX12_parse 0 0 28 [some (.ref o), some (.int how), some (.int x2), some (.int (pgoes pgf (pparT M)).1), some (.int x4), some (.int r)] [] g (rv o f (pgoes pgf (pparT M)).2) Q)
    (kk2 : ¬ (M 0 15 = -9 ∧ ¬ r = 0) → zS l d D b0 mX12_parse 0 0 28 [some (.ref o), some (.int how), some (.int x2), some (.int more), some (.int x4), some (.int r)] [] g (rv o f M) Q) : zS l d D b0 mX12_parse 0 0 98 [some (.ref o), some (.int how), some (.int x2), some (.int more), some (.int x4), some (.int r)] [] g (rv o f M) Q := by
  show zS _ _ _ _ _ _ _ 98 _ _ _ _ _
  refine z_aload0 dX12_parse_98 ?_
  refine zr_getI fl_RX12_85 hW dX12_parse_99 ?_
  refine z_bipush (v := (-9)) dX12_parse_102 (by decide) ?_
  refine z_icmp_ne (tgt := 132) dX12_parse_104 (by decide) (fun c104 => ?_) (fun c104 => ?_)
  · show zS _ _ _ _ _ _ _ 132 _ _ _ _ _
    refine z_goto (tgt := 28) dX12_parse_132 (by decide) ?_
    first
      | exact kk2 (fun q => c104 q.1)
      | exact kk2 (fun q => q.2 c109)
      | (have h := kk1 ⟨c104, c109⟩; first | (rw [show pparT M = pattach M (M 0 17) from if_pos c116] at h; exact h) | (rw [show pparT M = M from if_neg c116] at h; exact h))
  · show zS _ _ _ _ _ _ _ 107 _ _ _ _ _
    refine z_iload5 dX12_parse_107 ?_
    refine z_if_eq (tgt := 132) dX12_parse_109 (by decide) (fun c109 => ?_) (fun c109 => ?_)
    · show zS _ _ _ _ _ _ _ 132 _ _ _ _ _
      refine z_goto (tgt := 28) dX12_parse_132 (by decide) ?_
      first
        | exact kk2 (fun q => c104 q.1)
        | exact kk2 (fun q => q.2 c109)
        | (have h := kk1 ⟨c104, c109⟩; first | (rw [show pparT M = pattach M (M 0 17) from if_pos c116] at h; exact h) | (rw [show pparT M = M from if_neg c116] at h; exact h))
    · show zS _ _ _ _ _ _ _ 112 _ _ _ _ _
      refine z_aload0 dX12_parse_112 ?_
      refine zr_getI fl_RX12_108 hW dX12_parse_113 ?_
      refine z_if_le (tgt := 127) dX12_parse_116 (by decide) (fun c116 => ?_) (fun c116 => ?_)
      · show zS _ _ _ _ _ _ _ 127 _ _ _ _ _
        refine z_aload0 dX12_parse_127 ?_
        have hG := (hV ⟨c104, c109⟩).2
        first | rw [show pparT M = pattach M (M 0 17) from if_pos c116] at hG | rw [show pparT M = M from if_neg c116] at hG
        refine z_callVi zmd_X12_goesOn rfl (by decide) zl_RX12_158 zin_X12_goesOn zsel_X12_goesOn (R_X12_goesOn (d := d - 1) hW pgf hG (by omega)) hW.o rfl rfl (by omega) rfl dX12_parse_128 ?_
        refine z_istore3 dX12_parse_131 ?_
        refine z_goto (tgt := 28) dX12_parse_132 (by decide) ?_
        first
          | exact kk2 (fun q => c104 q.1)
          | exact kk2 (fun q => q.2 c109)
          | (have h := kk1 ⟨c104, c109⟩; first | (rw [show pparT M = pattach M (M 0 17) from if_pos c116] at h; exact h) | (rw [show pparT M = M from if_neg c116] at h; exact h))
      · show zS _ _ _ _ _ _ _ 119 _ _ _ _ _
        refine z_aload0 dX12_parse_119 ?_
        refine z_aload0 dX12_parse_120 ?_
        refine zr_getI fl_RX12_117 hW dX12_parse_121 ?_
        refine z_callVv zmd_X12_attach rfl (by decide) zl_RX12_147 zin_X12_attach zsel_X12_attach (R_X12_attach (d := d - 1) hW _ ((hV ⟨c104, c109⟩).1 c116).1 ((hV ⟨c104, c109⟩).1 c116).2.1 ((hV ⟨c104, c109⟩).1 c116).2.2) hW.o rfl rfl (by omega) rfl dX12_parse_124 ?_
        refine z_aload0 dX12_parse_127 ?_
        have hG := (hV ⟨c104, c109⟩).2
        first | rw [show pparT M = pattach M (M 0 17) from if_pos c116] at hG | rw [show pparT M = M from if_neg c116] at hG
        refine z_callVi zmd_X12_goesOn rfl (by decide) zl_RX12_158 zin_X12_goesOn zsel_X12_goesOn (R_X12_goesOn (d := d - 1) hW pgf hG (by omega)) hW.o rfl rfl (by omega) rfl dX12_parse_128 ?_
        refine z_istore3 dX12_parse_131 ?_
        refine z_goto (tgt := 28) dX12_parse_132 (by decide) ?_
        first
          | exact kk2 (fun q => c104 q.1)
          | exact kk2 (fun q => q.2 c109)
          | (have h := kk1 ⟨c104, c109⟩; first | (rw [show pparT M = pattach M (M 0 17) from if_pos c116] at h; exact h) | (rw [show pparT M = M from if_neg c116] at h; exact h))
theorem pparB_of {M : zI} {how v r : Int32} (hv : v = pparV0 M how) (hr : r = pparR0 M) : pbegins M v r = pparB M how := by rw [hv, hr]; rfl
set_option maxRecDepth 20000 in
set_option maxHeartbeats 2000000 in
theorem Rl_X12_parse {l : Launch} {d : Nat} {D : zD} {b0 : Nat} {g : zG} {f : zI} {o : Nat} (hW : RW b0 g o) (how x2 : Int32) (hd : 4 ≤ d) (Q : Nat → Nat → zKT → Prop) (M0 : zI) : ∀ (j : Nat) (more : Int32) (M : zI) (x4 x5 : Option Value), pparV how j more M → (ppar how j more M = M0) → (∀ (m x4 x5 : Option Value), zS l d D b0 mX12_parse 0 0 135 [some (.ref o), some (.int how), some (.int x2), m, x4, x5] [] g (rv o f M0) Q) → zS l d D b0 mX12_parse 0 0 28 [some (.ref o), some (.int how), some (.int x2), some (.int more), x4, x5] [] g (rv o f M) Q := by
  intro j
  induction j with
  | zero => intro more M x4 x5 hV; exact absurd hV id
  | succ j ih =>
    intro more M x4 x5 hV hM kk
    show zS _ _ _ _ _ _ _ 28 _ _ _ _ _
    refine z_iload3 dX12_parse_28 ?_
    refine z_if_eq (tgt := 135) dX12_parse_29 (by decide) (fun c29 => ?_) (fun c29 => ?_)
    · show zS _ _ _ _ _ _ _ 135 _ _ _ _ _
      first
        | (rw [show ppar how (j + 1) more M = M from if_pos c29] at hM; rw [hM]; exact kk _ _ _)
        | (rw [show ppar how (j + 1) more M = M from (if_neg c29).trans (if_pos c38)] at hM; rw [hM]; exact kk _ _ _)
    · show zS _ _ _ _ _ _ _ 32 _ _ _ _ _
      refine z_aload0 dX12_parse_32 ?_
      refine zr_getI fl_RX12_85 hW dX12_parse_33 ?_
      refine z_bipush (v := (-9)) dX12_parse_36 (by decide) ?_
      refine z_icmp_ne (tgt := 135) dX12_parse_38 (by decide) (fun c38 => ?_) (fun c38 => ?_)
      · show zS _ _ _ _ _ _ _ 135 _ _ _ _ _
        first
          | (rw [show ppar how (j + 1) more M = M from if_pos c29] at hM; rw [hM]; exact kk _ _ _)
          | (rw [show ppar how (j + 1) more M = M from (if_neg c29).trans (if_pos c38)] at hM; rw [hM]; exact kk _ _ _)
      · show zS _ _ _ _ _ _ _ 41 _ _ _ _ _
        obtain ⟨hB, hz, hV3, hV4⟩ := hV c29 c38
        have e0 : ppar how (j + 1) more M = _ := (if_neg c29).trans (if_neg (fun q => q c38))
        refine z_aload0 dX12_parse_41 ?_
        refine zr_getI fl_RX12_108 hW dX12_parse_42 ?_
        refine z_if_ne (tgt := 62) dX12_parse_45 (by decide) (fun c45 => ?_) (fun c45 => ?_)
        · show zS _ _ _ _ _ _ _ 62 _ _ _ _ _
          refine z_aload0 dX12_parse_62 ?_
          refine z_callVi zmd_X12_boundNext rfl (by decide) zl_RX12_151 zin_X12_boundNext zsel_X12_boundNext (R_X12_boundNext (d := d - 1) hW (hz c45).1 (hz c45).2 (by omega)) hW.o rfl rfl (by omega) rfl dX12_parse_63 ?_
          refine z_istore4 dX12_parse_66 ?_
          refine z_aload0 dX12_parse_68 ?_
          refine z_iload4 dX12_parse_69 ?_
          refine z_aload0 dX12_parse_71 ?_
          refine zr_getI fl_RX12_108 hW dX12_parse_72 ?_
          refine z_if_ne (tgt := 82) dX12_parse_75 (by decide) (fun c75 => ?_) (fun c75 => ?_)
          · show zS _ _ _ _ _ _ _ 82 _ _ _ _ _
            refine z_aload0 dX12_parse_82 ?_
            refine z_getRs fl_RX12_40 (by decide) hW.o (hW.r 9 rfl) dX12_parse_83 ?_
            refine z_aload0 dX12_parse_86 ?_
            refine zr_getI fl_RX12_108 hW dX12_parse_87 ?_
            refine z_iconst (v := 1) dX12_parse_90 (by decide) ?_
            refine z_isub dX12_parse_91 ?_
            refine zr_ld hW (i := 9) rfl (by decide) (by decide) (hz c75).1.ix (hz c75).1.bd dX12_parse_92 ?_
            refine z_callVi zmd_X12_beginsWhole rfl (by decide) zl_RX12_154 zin_X12_beginsWhole zsel_X12_beginsWhole (R_X12_beginsWhole (d := d - 1) hW _ _ hB (by omega)) hW.o rfl rfl (by omega) rfl dX12_parse_93 ?_
            first
              | (refine z_istore5 dX12_parse_96 ?_
                 have eB : pbegins M (8388608) (0) = pparB M how := pparB_of ((if_pos c45).trans (if_pos c50)).symm (if_pos c75).symm
                 rw [eB]
                 refine Rt_X12_parse_98 (M := (pparB M how).2) hW how x2 more (8388608) (pparB M how).1 hd Q (fun q => ⟨(hV3 q).1, (hV3 q).2.1⟩) (fun q => ?_) (fun q => ?_)
                 · rw [show ppar how (j + 1) more M = _ from e0.trans (if_pos q)] at hM
                   exact ih _ _ _ _ ((hV3 q).2.2) hM kk
                 · rw [show ppar how (j + 1) more M = _ from e0.trans (if_neg q)] at hM
                   exact ih _ _ _ _ (hV4 q) hM kk)
              | (refine z_istore5 dX12_parse_96 ?_
                 have eB : pbegins M (0) (0) = pparB M how := pparB_of ((if_pos c45).trans (if_neg c50)).symm (if_pos c75).symm
                 rw [eB]
                 refine Rt_X12_parse_98 (M := (pparB M how).2) hW how x2 more (0) (pparB M how).1 hd Q (fun q => ⟨(hV3 q).1, (hV3 q).2.1⟩) (fun q => ?_) (fun q => ?_)
                 · rw [show ppar how (j + 1) more M = _ from e0.trans (if_pos q)] at hM
                   exact ih _ _ _ _ ((hV3 q).2.2) hM kk
                 · rw [show ppar how (j + 1) more M = _ from e0.trans (if_neg q)] at hM
                   exact ih _ _ _ _ (hV4 q) hM kk)
              | (refine z_istore5 dX12_parse_96 ?_
                 have eB : pbegins M ((pboundNext M)) ((M 10 (ptop M))) = pparB M how := pparB_of (if_neg c45).symm (if_neg c75).symm
                 rw [eB]
                 refine Rt_X12_parse_98 (M := (pparB M how).2) hW how x2 more ((pboundNext M)) (pparB M how).1 hd Q (fun q => ⟨(hV3 q).1, (hV3 q).2.1⟩) (fun q => ?_) (fun q => ?_)
                 · rw [show ppar how (j + 1) more M = _ from e0.trans (if_pos q)] at hM
                   exact ih _ _ _ _ ((hV3 q).2.2) hM kk
                 · rw [show ppar how (j + 1) more M = _ from e0.trans (if_neg q)] at hM
                   exact ih _ _ _ _ (hV4 q) hM kk)
              | exact absurd c45 c75
              | exact absurd c75 c45
          · show zS _ _ _ _ _ _ _ 78 _ _ _ _ _
            refine z_iconst (v := 0) dX12_parse_78 (by decide) ?_
            refine z_goto (tgt := 93) dX12_parse_79 (by decide) ?_
            show zS _ _ _ _ _ _ _ 93 _ _ _ _ _
            refine z_callVi zmd_X12_beginsWhole rfl (by decide) zl_RX12_154 zin_X12_beginsWhole zsel_X12_beginsWhole (R_X12_beginsWhole (d := d - 1) hW _ _ hB (by omega)) hW.o rfl rfl (by omega) rfl dX12_parse_93 ?_
            first
              | (refine z_istore5 dX12_parse_96 ?_
                 have eB : pbegins M (8388608) (0) = pparB M how := pparB_of ((if_pos c45).trans (if_pos c50)).symm (if_pos c75).symm
                 rw [eB]
                 refine Rt_X12_parse_98 (M := (pparB M how).2) hW how x2 more (8388608) (pparB M how).1 hd Q (fun q => ⟨(hV3 q).1, (hV3 q).2.1⟩) (fun q => ?_) (fun q => ?_)
                 · rw [show ppar how (j + 1) more M = _ from e0.trans (if_pos q)] at hM
                   exact ih _ _ _ _ ((hV3 q).2.2) hM kk
                 · rw [show ppar how (j + 1) more M = _ from e0.trans (if_neg q)] at hM
                   exact ih _ _ _ _ (hV4 q) hM kk)
              | (refine z_istore5 dX12_parse_96 ?_
                 have eB : pbegins M (0) (0) = pparB M how := pparB_of ((if_pos c45).trans (if_neg c50)).symm (if_pos c75).symm
                 rw [eB]
                 refine Rt_X12_parse_98 (M := (pparB M how).2) hW how x2 more (0) (pparB M how).1 hd Q (fun q => ⟨(hV3 q).1, (hV3 q).2.1⟩) (fun q => ?_) (fun q => ?_)
                 · rw [show ppar how (j + 1) more M = _ from e0.trans (if_pos q)] at hM
                   exact ih _ _ _ _ ((hV3 q).2.2) hM kk
                 · rw [show ppar how (j + 1) more M = _ from e0.trans (if_neg q)] at hM
                   exact ih _ _ _ _ (hV4 q) hM kk)
              | (refine z_istore5 dX12_parse_96 ?_
                 have eB : pbegins M ((pboundNext M)) ((M 10 (ptop M))) = pparB M how := pparB_of (if_neg c45).symm (if_neg c75).symm
                 rw [eB]
                 refine Rt_X12_parse_98 (M := (pparB M how).2) hW how x2 more ((pboundNext M)) (pparB M how).1 hd Q (fun q => ⟨(hV3 q).1, (hV3 q).2.1⟩) (fun q => ?_) (fun q => ?_)
                 · rw [show ppar how (j + 1) more M = _ from e0.trans (if_pos q)] at hM
                   exact ih _ _ _ _ ((hV3 q).2.2) hM kk
                 · rw [show ppar how (j + 1) more M = _ from e0.trans (if_neg q)] at hM
                   exact ih _ _ _ _ (hV4 q) hM kk)
              | exact absurd c45 c75
              | exact absurd c75 c45
        · show zS _ _ _ _ _ _ _ 48 _ _ _ _ _
          refine z_iload1 dX12_parse_48 ?_
          refine z_iconst (v := 1) dX12_parse_49 (by decide) ?_
          refine z_icmp_ne (tgt := 58) dX12_parse_50 (by decide) (fun c50 => ?_) (fun c50 => ?_)
          · show zS _ _ _ _ _ _ _ 58 _ _ _ _ _
            refine z_iconst (v := 0) dX12_parse_58 (by decide) ?_
            refine z_goto (tgt := 66) dX12_parse_59 (by decide) ?_
            show zS _ _ _ _ _ _ _ 66 _ _ _ _ _
            refine z_istore4 dX12_parse_66 ?_
            refine z_aload0 dX12_parse_68 ?_
            refine z_iload4 dX12_parse_69 ?_
            refine z_aload0 dX12_parse_71 ?_
            refine zr_getI fl_RX12_108 hW dX12_parse_72 ?_
            refine z_if_ne (tgt := 82) dX12_parse_75 (by decide) (fun c75 => ?_) (fun c75 => ?_)
            · show zS _ _ _ _ _ _ _ 82 _ _ _ _ _
              refine z_aload0 dX12_parse_82 ?_
              refine z_getRs fl_RX12_40 (by decide) hW.o (hW.r 9 rfl) dX12_parse_83 ?_
              refine z_aload0 dX12_parse_86 ?_
              refine zr_getI fl_RX12_108 hW dX12_parse_87 ?_
              refine z_iconst (v := 1) dX12_parse_90 (by decide) ?_
              refine z_isub dX12_parse_91 ?_
              refine zr_ld hW (i := 9) rfl (by decide) (by decide) (hz c75).1.ix (hz c75).1.bd dX12_parse_92 ?_
              refine z_callVi zmd_X12_beginsWhole rfl (by decide) zl_RX12_154 zin_X12_beginsWhole zsel_X12_beginsWhole (R_X12_beginsWhole (d := d - 1) hW _ _ hB (by omega)) hW.o rfl rfl (by omega) rfl dX12_parse_93 ?_
              first
                | (refine z_istore5 dX12_parse_96 ?_
                   have eB : pbegins M (8388608) (0) = pparB M how := pparB_of ((if_pos c45).trans (if_pos c50)).symm (if_pos c75).symm
                   rw [eB]
                   refine Rt_X12_parse_98 (M := (pparB M how).2) hW how x2 more (8388608) (pparB M how).1 hd Q (fun q => ⟨(hV3 q).1, (hV3 q).2.1⟩) (fun q => ?_) (fun q => ?_)
                   · rw [show ppar how (j + 1) more M = _ from e0.trans (if_pos q)] at hM
                     exact ih _ _ _ _ ((hV3 q).2.2) hM kk
                   · rw [show ppar how (j + 1) more M = _ from e0.trans (if_neg q)] at hM
                     exact ih _ _ _ _ (hV4 q) hM kk)
                | (refine z_istore5 dX12_parse_96 ?_
                   have eB : pbegins M (0) (0) = pparB M how := pparB_of ((if_pos c45).trans (if_neg c50)).symm (if_pos c75).symm
                   rw [eB]
                   refine Rt_X12_parse_98 (M := (pparB M how).2) hW how x2 more (0) (pparB M how).1 hd Q (fun q => ⟨(hV3 q).1, (hV3 q).2.1⟩) (fun q => ?_) (fun q => ?_)
                   · rw [show ppar how (j + 1) more M = _ from e0.trans (if_pos q)] at hM
                     exact ih _ _ _ _ ((hV3 q).2.2) hM kk
                   · rw [show ppar how (j + 1) more M = _ from e0.trans (if_neg q)] at hM
                     exact ih _ _ _ _ (hV4 q) hM kk)
                | (refine z_istore5 dX12_parse_96 ?_
                   have eB : pbegins M ((pboundNext M)) ((M 10 (ptop M))) = pparB M how := pparB_of (if_neg c45).symm (if_neg c75).symm
                   rw [eB]
                   refine Rt_X12_parse_98 (M := (pparB M how).2) hW how x2 more ((pboundNext M)) (pparB M how).1 hd Q (fun q => ⟨(hV3 q).1, (hV3 q).2.1⟩) (fun q => ?_) (fun q => ?_)
                   · rw [show ppar how (j + 1) more M = _ from e0.trans (if_pos q)] at hM
                     exact ih _ _ _ _ ((hV3 q).2.2) hM kk
                   · rw [show ppar how (j + 1) more M = _ from e0.trans (if_neg q)] at hM
                     exact ih _ _ _ _ (hV4 q) hM kk)
                | exact absurd c45 c75
                | exact absurd c75 c45
            · show zS _ _ _ _ _ _ _ 78 _ _ _ _ _
              refine z_iconst (v := 0) dX12_parse_78 (by decide) ?_
              refine z_goto (tgt := 93) dX12_parse_79 (by decide) ?_
              show zS _ _ _ _ _ _ _ 93 _ _ _ _ _
              refine z_callVi zmd_X12_beginsWhole rfl (by decide) zl_RX12_154 zin_X12_beginsWhole zsel_X12_beginsWhole (R_X12_beginsWhole (d := d - 1) hW _ _ hB (by omega)) hW.o rfl rfl (by omega) rfl dX12_parse_93 ?_
              first
                | (refine z_istore5 dX12_parse_96 ?_
                   have eB : pbegins M (8388608) (0) = pparB M how := pparB_of ((if_pos c45).trans (if_pos c50)).symm (if_pos c75).symm
                   rw [eB]
                   refine Rt_X12_parse_98 (M := (pparB M how).2) hW how x2 more (8388608) (pparB M how).1 hd Q (fun q => ⟨(hV3 q).1, (hV3 q).2.1⟩) (fun q => ?_) (fun q => ?_)
                   · rw [show ppar how (j + 1) more M = _ from e0.trans (if_pos q)] at hM
                     exact ih _ _ _ _ ((hV3 q).2.2) hM kk
                   · rw [show ppar how (j + 1) more M = _ from e0.trans (if_neg q)] at hM
                     exact ih _ _ _ _ (hV4 q) hM kk)
                | (refine z_istore5 dX12_parse_96 ?_
                   have eB : pbegins M (0) (0) = pparB M how := pparB_of ((if_pos c45).trans (if_neg c50)).symm (if_pos c75).symm
                   rw [eB]
                   refine Rt_X12_parse_98 (M := (pparB M how).2) hW how x2 more (0) (pparB M how).1 hd Q (fun q => ⟨(hV3 q).1, (hV3 q).2.1⟩) (fun q => ?_) (fun q => ?_)
                   · rw [show ppar how (j + 1) more M = _ from e0.trans (if_pos q)] at hM
                     exact ih _ _ _ _ ((hV3 q).2.2) hM kk
                   · rw [show ppar how (j + 1) more M = _ from e0.trans (if_neg q)] at hM
                     exact ih _ _ _ _ (hV4 q) hM kk)
                | (refine z_istore5 dX12_parse_96 ?_
                   have eB : pbegins M ((pboundNext M)) ((M 10 (ptop M))) = pparB M how := pparB_of (if_neg c45).symm (if_neg c75).symm
                   rw [eB]
                   refine Rt_X12_parse_98 (M := (pparB M how).2) hW how x2 more ((pboundNext M)) (pparB M how).1 hd Q (fun q => ⟨(hV3 q).1, (hV3 q).2.1⟩) (fun q => ?_) (fun q => ?_)
                   · rw [show ppar how (j + 1) more M = _ from e0.trans (if_pos q)] at hM
                     exact ih _ _ _ _ ((hV3 q).2.2) hM kk
                   · rw [show ppar how (j + 1) more M = _ from e0.trans (if_neg q)] at hM
                     exact ih _ _ _ _ (hV4 q) hM kk)
                | exact absurd c45 c75
                | exact absurd c75 c45
          · show zS _ _ _ _ _ _ _ 53 _ _ _ _ _
            refine z_ldc dX12_parse_53 zk_RX12_150 ?_
            refine z_goto (tgt := 66) dX12_parse_55 (by decide) ?_
            show zS _ _ _ _ _ _ _ 66 _ _ _ _ _
            refine z_istore4 dX12_parse_66 ?_
            refine z_aload0 dX12_parse_68 ?_
            refine z_iload4 dX12_parse_69 ?_
            refine z_aload0 dX12_parse_71 ?_
            refine zr_getI fl_RX12_108 hW dX12_parse_72 ?_
            refine z_if_ne (tgt := 82) dX12_parse_75 (by decide) (fun c75 => ?_) (fun c75 => ?_)
            · show zS _ _ _ _ _ _ _ 82 _ _ _ _ _
              refine z_aload0 dX12_parse_82 ?_
              refine z_getRs fl_RX12_40 (by decide) hW.o (hW.r 9 rfl) dX12_parse_83 ?_
              refine z_aload0 dX12_parse_86 ?_
              refine zr_getI fl_RX12_108 hW dX12_parse_87 ?_
              refine z_iconst (v := 1) dX12_parse_90 (by decide) ?_
              refine z_isub dX12_parse_91 ?_
              refine zr_ld hW (i := 9) rfl (by decide) (by decide) (hz c75).1.ix (hz c75).1.bd dX12_parse_92 ?_
              refine z_callVi zmd_X12_beginsWhole rfl (by decide) zl_RX12_154 zin_X12_beginsWhole zsel_X12_beginsWhole (R_X12_beginsWhole (d := d - 1) hW _ _ hB (by omega)) hW.o rfl rfl (by omega) rfl dX12_parse_93 ?_
              first
                | (refine z_istore5 dX12_parse_96 ?_
                   have eB : pbegins M (8388608) (0) = pparB M how := pparB_of ((if_pos c45).trans (if_pos c50)).symm (if_pos c75).symm
                   rw [eB]
                   refine Rt_X12_parse_98 (M := (pparB M how).2) hW how x2 more (8388608) (pparB M how).1 hd Q (fun q => ⟨(hV3 q).1, (hV3 q).2.1⟩) (fun q => ?_) (fun q => ?_)
                   · rw [show ppar how (j + 1) more M = _ from e0.trans (if_pos q)] at hM
                     exact ih _ _ _ _ ((hV3 q).2.2) hM kk
                   · rw [show ppar how (j + 1) more M = _ from e0.trans (if_neg q)] at hM
                     exact ih _ _ _ _ (hV4 q) hM kk)
                | (refine z_istore5 dX12_parse_96 ?_
                   have eB : pbegins M (0) (0) = pparB M how := pparB_of ((if_pos c45).trans (if_neg c50)).symm (if_pos c75).symm
                   rw [eB]
                   refine Rt_X12_parse_98 (M := (pparB M how).2) hW how x2 more (0) (pparB M how).1 hd Q (fun q => ⟨(hV3 q).1, (hV3 q).2.1⟩) (fun q => ?_) (fun q => ?_)
                   · rw [show ppar how (j + 1) more M = _ from e0.trans (if_pos q)] at hM
                     exact ih _ _ _ _ ((hV3 q).2.2) hM kk
                   · rw [show ppar how (j + 1) more M = _ from e0.trans (if_neg q)] at hM
                     exact ih _ _ _ _ (hV4 q) hM kk)
                | (refine z_istore5 dX12_parse_96 ?_
                   have eB : pbegins M ((pboundNext M)) ((M 10 (ptop M))) = pparB M how := pparB_of (if_neg c45).symm (if_neg c75).symm
                   rw [eB]
                   refine Rt_X12_parse_98 (M := (pparB M how).2) hW how x2 more ((pboundNext M)) (pparB M how).1 hd Q (fun q => ⟨(hV3 q).1, (hV3 q).2.1⟩) (fun q => ?_) (fun q => ?_)
                   · rw [show ppar how (j + 1) more M = _ from e0.trans (if_pos q)] at hM
                     exact ih _ _ _ _ ((hV3 q).2.2) hM kk
                   · rw [show ppar how (j + 1) more M = _ from e0.trans (if_neg q)] at hM
                     exact ih _ _ _ _ (hV4 q) hM kk)
                | exact absurd c45 c75
                | exact absurd c75 c45
            · show zS _ _ _ _ _ _ _ 78 _ _ _ _ _
              refine z_iconst (v := 0) dX12_parse_78 (by decide) ?_
              refine z_goto (tgt := 93) dX12_parse_79 (by decide) ?_
              show zS _ _ _ _ _ _ _ 93 _ _ _ _ _
              refine z_callVi zmd_X12_beginsWhole rfl (by decide) zl_RX12_154 zin_X12_beginsWhole zsel_X12_beginsWhole (R_X12_beginsWhole (d := d - 1) hW _ _ hB (by omega)) hW.o rfl rfl (by omega) rfl dX12_parse_93 ?_
              first
                | (refine z_istore5 dX12_parse_96 ?_
                   have eB : pbegins M (8388608) (0) = pparB M how := pparB_of ((if_pos c45).trans (if_pos c50)).symm (if_pos c75).symm
                   rw [eB]
                   refine Rt_X12_parse_98 (M := (pparB M how).2) hW how x2 more (8388608) (pparB M how).1 hd Q (fun q => ⟨(hV3 q).1, (hV3 q).2.1⟩) (fun q => ?_) (fun q => ?_)
                   · rw [show ppar how (j + 1) more M = _ from e0.trans (if_pos q)] at hM
                     exact ih _ _ _ _ ((hV3 q).2.2) hM kk
                   · rw [show ppar how (j + 1) more M = _ from e0.trans (if_neg q)] at hM
                     exact ih _ _ _ _ (hV4 q) hM kk)
                | (refine z_istore5 dX12_parse_96 ?_
                   have eB : pbegins M (0) (0) = pparB M how := pparB_of ((if_pos c45).trans (if_neg c50)).symm (if_pos c75).symm
                   rw [eB]
                   refine Rt_X12_parse_98 (M := (pparB M how).2) hW how x2 more (0) (pparB M how).1 hd Q (fun q => ⟨(hV3 q).1, (hV3 q).2.1⟩) (fun q => ?_) (fun q => ?_)
                   · rw [show ppar how (j + 1) more M = _ from e0.trans (if_pos q)] at hM
                     exact ih _ _ _ _ ((hV3 q).2.2) hM kk
                   · rw [show ppar how (j + 1) more M = _ from e0.trans (if_neg q)] at hM
                     exact ih _ _ _ _ (hV4 q) hM kk)
                | (refine z_istore5 dX12_parse_96 ?_
                   have eB : pbegins M ((pboundNext M)) ((M 10 (ptop M))) = pparB M how := pparB_of (if_neg c45).symm (if_neg c75).symm
                   rw [eB]
                   refine Rt_X12_parse_98 (M := (pparB M how).2) hW how x2 more ((pboundNext M)) (pparB M how).1 hd Q (fun q => ⟨(hV3 q).1, (hV3 q).2.1⟩) (fun q => ?_) (fun q => ?_)
                   · rw [show ppar how (j + 1) more M = _ from e0.trans (if_pos q)] at hM
                     exact ih _ _ _ _ ((hV3 q).2.2) hM kk
                   · rw [show ppar how (j + 1) more M = _ from e0.trans (if_neg q)] at hM
                     exact ih _ _ _ _ (hV4 q) hM kk)
                | exact absurd c45 c75
                | exact absurd c75 c45
def pparf : Nat := 300
def ppar0 (M : zI) : zI := zup (zup (zup (zup M 0 14 0) 0 15 (-9)) 0 13 0) 0 16 0
def pparM (M : zI) (how : Int32) : zI := ppar how pparf 1 (ppar0 M)
def pparN (N : zI) : zI := if N 0 15 = -9 then (if pskip N 0 14 < pskip N 0 8 then pfails (pskip N) else pskip N) else N
def pparse (M : zI) (how : Int32) : Int32 × zI :=
  (if pparN (pparM M how) 0 15 = -9 then M 0 1 else -9, zup (pparN (pparM M how)) 11 (tn (M 0 1)) (pparN (pparM M how) 0 1))
def pparseV (M : zI) (how : Int32) : Prop := iv 65000 (M 0 1) ∧ pparV how pparf 1 (ppar0 M) ∧ pat (pparM M how)
set_option maxRecDepth 20000 in
theorem Rt_X12_parse_163 {l : Launch} {d : Nat} {D : zD} {b0 : Nat} {g : zG} {f M : zI} {o : Nat} (hW : RW b0 g o) (how x2 : Int32) (x3 x4 x5 : Option Value) (h2 : iv 65000 x2) : zS l d D b0 mX12_parse 0 0 163 [some (.ref o), some (.int how), some (.int x2), x3, x4, x5] [] g (rv o f M) (zq D b0 (zEx (some (.int (if M 0 15 = -9 then x2 else -9))) g (rv o f (zup M 11 (tn x2) (M 0 1))))) := by
  show zS _ _ _ _ _ _ _ 163 _ _ _ _ _
  have h21 := h2.1
  refine z_aload0 dX12_parse_163 ?_
  refine z_getRs fl_RX12_44 (by decide) hW.o (hW.r 10 rfl) dX12_parse_164 ?_
  refine z_iload2 dX12_parse_167 ?_
  refine z_aload0 dX12_parse_168 ?_
  refine zr_getI fl_RX12_88 hW dX12_parse_169 ?_
  refine zr_st hW (i := 10) rfl (by decide) (by decide) h2.2 (by omega) dX12_parse_172 ?_
  refine z_aload0 dX12_parse_173 ?_
  refine zr_getI fl_RX12_85 hW dX12_parse_174 ?_
  rw [show (zup M 11 (tn x2) (M 0 1) 0 15 : Int32) = M 0 15 from congrFun (zup_r (by decide)) 15]
  refine z_bipush (v := (-9)) dX12_parse_177 (by decide) ?_
  refine z_icmp_ne (tgt := 186) dX12_parse_179 (by decide) (fun c179 => ?_) (fun c179 => ?_)
  · show zS _ _ _ _ _ _ _ 186 _ _ _ _ _
    refine z_bipush (v := (-9)) dX12_parse_186 (by decide) ?_
    refine z_iret dX12_parse_188 rfl ?_
    first | (rw [if_pos c179]; exact ⟨rfl, rfl, rfl, rfl, rfl⟩) | (rw [if_neg c179]; exact ⟨rfl, rfl, rfl, rfl, rfl⟩)
  · show zS _ _ _ _ _ _ _ 182 _ _ _ _ _
    refine z_iload2 dX12_parse_182 ?_
    refine z_goto (tgt := 188) dX12_parse_183 (by decide) ?_
    show zS _ _ _ _ _ _ _ 188 _ _ _ _ _
    refine z_iret dX12_parse_188 rfl ?_
    first | (rw [if_pos c179]; exact ⟨rfl, rfl, rfl, rfl, rfl⟩) | (rw [if_neg c179]; exact ⟨rfl, rfl, rfl, rfl, rfl⟩)
def pparZ (N : zI) (x2 : Int32) : Int32 × zI := (if N 0 15 = -9 then x2 else -9, zup N 11 (tn x2) (N 0 1))
set_option maxRecDepth 20000 in
theorem Rt_X12_parse_135 {l : Launch} {d : Nat} {D : zD} {b0 : Nat} {g : zG} {f M : zI} {o : Nat} (hW : RW b0 g o) (how x2 : Int32) (x3 x4 x5 : Option Value) (h2 : iv 65000 x2) (hp : pat M) (hd : 1 ≤ d) : zS l d D b0 mX12_parse 0 0 135 [some (.ref o), some (.int how), some (.int x2), x3, x4, x5] [] g (rv o f M) (zq D b0 (zEx (some (.int (pparZ (pparN M) x2).1)) g (rv o f (pparZ (pparN M) x2).2))) := by
  show zS _ _ _ _ _ _ _ 135 _ _ _ _ _
  refine z_aload0 dX12_parse_135 ?_
  refine zr_getI fl_RX12_85 hW dX12_parse_136 ?_
  refine z_bipush (v := (-9)) dX12_parse_139 (by decide) ?_
  refine z_icmp_ne (tgt := 163) dX12_parse_141 (by decide) (fun c141 => ?_) (fun c141 => ?_)
  · show zS _ _ _ _ _ _ _ 163 _ _ _ _ _
    first
      | (rw [show pparN M = pfails (pskip M) from (if_pos c141).trans (if_pos c156)]; exact Rt_X12_parse_163 hW how x2 x3 x4 x5 h2)
      | (rw [show pparN M = pskip M from (if_pos c141).trans (if_neg c156)]; exact Rt_X12_parse_163 hW how x2 x3 x4 x5 h2)
      | (rw [show pparN M = M from if_neg c141]; exact Rt_X12_parse_163 hW how x2 x3 x4 x5 h2)
  · show zS _ _ _ _ _ _ _ 144 _ _ _ _ _
    refine z_aload0 dX12_parse_144 ?_
    refine z_callVv zmd_X12_skip rfl (by decide) zl_RX12_94 zin_X12_skip zsel_X12_skip (R_X12_skip (d := d - 1) hW hp) hW.o rfl rfl (by omega) rfl dX12_parse_145 ?_
    refine z_aload0 dX12_parse_148 ?_
    refine zr_getI fl_RX12_82 hW dX12_parse_149 ?_
    refine z_aload0 dX12_parse_152 ?_
    refine zr_getI fl_RX12_78 hW dX12_parse_153 ?_
    refine z_icmp_ge (tgt := 163) dX12_parse_156 (by decide) (fun c156 => ?_) (fun c156 => ?_)
    · show zS _ _ _ _ _ _ _ 163 _ _ _ _ _
      first
        | (rw [show pparN M = pfails (pskip M) from (if_pos c141).trans (if_pos c156)]; exact Rt_X12_parse_163 hW how x2 x3 x4 x5 h2)
        | (rw [show pparN M = pskip M from (if_pos c141).trans (if_neg c156)]; exact Rt_X12_parse_163 hW how x2 x3 x4 x5 h2)
        | (rw [show pparN M = M from if_neg c141]; exact Rt_X12_parse_163 hW how x2 x3 x4 x5 h2)
    · show zS _ _ _ _ _ _ _ 159 _ _ _ _ _
      refine z_aload0 dX12_parse_159 ?_
      refine z_callVv zmd_X12_fails rfl (by decide) zl_RX12_101 zin_X12_fails zsel_X12_fails (R_X12_fails (d := d - 1) hW ) hW.o rfl rfl (by omega) rfl dX12_parse_160 ?_
      first
        | (rw [show pparN M = pfails (pskip M) from (if_pos c141).trans (if_pos c156)]; exact Rt_X12_parse_163 hW how x2 x3 x4 x5 h2)
        | (rw [show pparN M = pskip M from (if_pos c141).trans (if_neg c156)]; exact Rt_X12_parse_163 hW how x2 x3 x4 x5 h2)
        | (rw [show pparN M = M from if_neg c141]; exact Rt_X12_parse_163 hW how x2 x3 x4 x5 h2)
set_option maxRecDepth 20000 in
theorem R_X12_parse {l : Launch} {d : Nat} {D : zD} {b0 : Nat} {g : zG} {f M : zI} {o : Nat} (hW : RW b0 g o) (how : Int32) (hV : pparseV M how) (hd : 4 ≤ d) : zM l d D b0 mX12_parse [.ref o, .int how] g (rv o f M) (zEx (some (.int ((pparse M how).1))) g (rv o f ((pparse M how).2))) := by
  refine zM.start zmd_X12_parse (Nat.le_of_ble_eq_true rfl) ⟨rfl, rfl, trivial⟩ [some (.ref o), some (.int how), none, none, none, none] rfl ?_
  refine z_aload0 dX12_parse_0 ?_
  refine z_iconst (v := 0) dX12_parse_1 (by decide) ?_
  refine zr_putI fl_RX12_82 hW dX12_parse_2 ?_
  refine z_aload0 dX12_parse_5 ?_
  refine z_bipush (v := (-9)) dX12_parse_6 (by decide) ?_
  refine zr_putI fl_RX12_85 hW dX12_parse_8 ?_
  refine z_aload0 dX12_parse_11 ?_
  refine z_iconst (v := 0) dX12_parse_12 (by decide) ?_
  refine zr_putI fl_RX12_108 hW dX12_parse_13 ?_
  refine z_aload0 dX12_parse_16 ?_
  refine z_iconst (v := 0) dX12_parse_17 (by decide) ?_
  show zS _ _ _ _ _ _ _ 18 _ _ _ _ _
  refine zr_putI fl_RX12_91 hW dX12_parse_18 ?_
  refine z_aload0 dX12_parse_21 ?_
  refine zr_getI fl_RX12_88 hW dX12_parse_22 ?_
  refine z_istore2 dX12_parse_25 ?_
  refine z_iconst (v := 1) dX12_parse_26 (by decide) ?_
  refine z_istore3 dX12_parse_27 ?_
  refine Rl_X12_parse hW how (M 0 1) hd _ (pparM M how) pparf 1 _ _ _ hV.2.1 rfl (fun m x4 x5 => ?_)
  exact Rt_X12_parse_135 hW how (M 0 1) m x4 x5 hV.1 hV.2.2 (by omega)
def pfault (M : zI) (x : Int32) : Int32 × zI := if x < 0 ∨ 1 < x then (-1, M) else ((pparse M x).2 0 15, zup (pparse M x).2 0 1 (M 0 1))
def pload (M : zI) : Int32 × zI := if (pparse M 0).1 = -9 then (-2, zup (pparse M 0).2 0 1 (M 0 1)) else ((pparse M 0).2 0 16, pbegin (zup (pparse M 0).2 2 0 (pparse M 0).1))
def pdefine (M : zI) (x : Int32) : Int32 × zI := if x < 0 ∨ 3 < x then (-1, M) else if (pparse M 1).1 = -9 then (-2, zup (pparse M 1).2 0 1 (M 0 1)) else ((pparse M 1).2 0 16, zup (pparse M 1).2 2 (1 + tn x) (pparse M 1).1)
theorem pbegin_0 {M : zI} {r : Nat} (h : r ≠ 2) : pbegin M r = M r := by
  unfold pbegin
  rw [zup_r h, zup_r h, zup_r h, zup_r h, zup_r h, zup_r h, zup_r h]
  funext c
  exact if_neg (fun q => h q.1)
set_option maxRecDepth 20000 in
theorem R_X12_fault {l : Launch} {d : Nat} {D : zD} {b0 : Nat} {g : zG} {f M : zI} {o : Nat} (hW : RW b0 g o) (x : Int32) (hV : ¬ (x < 0 ∨ 1 < x) → pparseV M x) (hd : 5 ≤ d) : zM l d D b0 mX12_fault [.ref o, .int x] g (rv o f M) (zEx (some (.int ((pfault M x).1))) g (rv o f ((pfault M x).2))) := by
  have hPar := fun (h : pparseV M x) => R_X12_parse (l := l) (d := d - 1) (D := D) (f := f) hW x h (by omega)
  unfold pfault
  generalize pparse M x = P at hPar ⊢
  refine zM.start zmd_X12_fault (Nat.le_of_ble_eq_true rfl) ⟨rfl, rfl, trivial⟩ [some (.ref o), some (.int x), none, none] rfl ?_
  refine z_iload1 dX12_fault_0 ?_
  refine z_iconst (v := 0) dX12_fault_1 (by decide) ?_
  refine z_iconst (v := 1) dX12_fault_2 (by decide) ?_
  refine z_callSi zmd_X12_isIn zl_RX12_74 zst_X12_isIn (R_X12_isIn (d := d - 1) hW _ _ _) rfl rfl (by omega) rfl dX12_fault_3 ?_
  refine z_if_ne (tgt := 11) dX12_fault_6 (by decide) (fun c6 => ?_) (fun c6 => ?_)
  · show zS _ _ _ _ _ _ _ 11 _ _ _ _ _
    refine z_aload0 dX12_fault_11 ?_
    refine zr_getI fl_RX12_88 hW dX12_fault_12 ?_
    refine z_istore2 dX12_fault_15 ?_
    refine z_aload0 dX12_fault_16 ?_
    refine z_iload1 dX12_fault_17 ?_
    refine z_callVi zmd_X12_parse rfl (by decide) zl_RX12_162 zin_X12_parse zsel_X12_parse (hPar (hV (zByes c6))) hW.o rfl rfl (by omega) rfl dX12_fault_18 ?_
    refine z_istore3 dX12_fault_21 ?_
    refine z_aload0 dX12_fault_22 ?_
    refine z_iload2 dX12_fault_23 ?_
    refine zr_putI fl_RX12_88 hW dX12_fault_24 ?_
    refine z_aload0 dX12_fault_27 ?_
    show zS _ _ _ _ _ _ _ 28 _ _ _ _ _
    refine zr_getI fl_RX12_85 hW dX12_fault_28 ?_
    refine z_iret dX12_fault_31 rfl ?_
    rw [if_neg (zByes c6)]
    exact ⟨rfl, rfl, rfl, rfl, rfl⟩
  · show zS _ _ _ _ _ _ _ 9 _ _ _ _ _
    refine z_iconst (v := (-1)) dX12_fault_9 (by decide) ?_
    refine z_iret dX12_fault_10 rfl ?_
    rw [if_pos (zBno c6)]
    exact ⟨rfl, rfl, rfl, rfl, rfl⟩
set_option maxRecDepth 20000 in
theorem R_X12_load {l : Launch} {d : Nat} {D : zD} {b0 : Nat} {g : zG} {f M : zI} {o : Nat} (hW : RW b0 g o) (hV : pparseV M 0) (hd : 5 ≤ d) : zM l d D b0 mX12_load [.ref o] g (rv o f M) (zEx (some (.int ((pload M).1))) g (rv o f ((pload M).2))) := by
  have hPar := fun (h : pparseV M 0) => R_X12_parse (l := l) (d := d - 1) (D := D) (f := f) hW 0 h (by omega)
  unfold pload
  generalize pparse M 0 = P at hPar ⊢
  refine zM.start zmd_X12_load (Nat.le_of_ble_eq_true rfl) ⟨rfl, trivial⟩ [some (.ref o), none, none] rfl ?_
  refine z_aload0 dX12_load_0 ?_
  refine zr_getI fl_RX12_88 hW dX12_load_1 ?_
  refine z_istore1 dX12_load_4 ?_
  refine z_aload0 dX12_load_5 ?_
  refine z_iconst (v := 0) dX12_load_6 (by decide) ?_
  refine z_callVi zmd_X12_parse rfl (by decide) zl_RX12_162 zin_X12_parse zsel_X12_parse (hPar hV) hW.o rfl rfl (by omega) rfl dX12_load_7 ?_
  refine z_istore2 dX12_load_10 ?_
  refine z_iload2 dX12_load_11 ?_
  refine z_bipush (v := (-9)) dX12_load_12 (by decide) ?_
  refine z_icmp_ne (tgt := 25) dX12_load_14 (by decide) (fun c14 => ?_) (fun c14 => ?_)
  · show zS _ _ _ _ _ _ _ 25 _ _ _ _ _
    refine z_aload0 dX12_load_25 ?_
    refine z_getRs fl_RX12_14 (by decide) hW.o (hW.r 1 rfl) dX12_load_26 ?_
    refine z_iconst (v := 0) dX12_load_29 (by decide) ?_
    refine z_iload2 dX12_load_30 ?_
    refine zr_st hW (i := 1) rfl (by decide) (by decide) (ixC 0) (by decide) dX12_load_31 ?_
    refine z_aload0 dX12_load_32 ?_
    refine z_callVv zmd_X12_begin rfl (by decide) zl_RX12_71 zin_X12_begin zsel_X12_begin (R_X12_begin (d := d - 1) hW ) hW.o rfl rfl (by omega) rfl dX12_load_33 ?_
    refine z_aload0 dX12_load_36 ?_
    refine zr_getI fl_RX12_91 hW dX12_load_37 ?_
    refine z_iret dX12_load_40 rfl ?_
    rw [if_neg c14]
    exact ⟨by rw [pbegin_0 (show (0 : Nat) ≠ 2 by decide), zup_r (show (0 : Nat) ≠ 2 by decide)], rfl, rfl, rfl, rfl⟩
  · show zS _ _ _ _ _ _ _ 17 _ _ _ _ _
    refine z_aload0 dX12_load_17 ?_
    refine z_iload1 dX12_load_18 ?_
    refine zr_putI fl_RX12_88 hW dX12_load_19 ?_
    refine z_bipush (v := (-2)) dX12_load_22 (by decide) ?_
    refine z_iret dX12_load_24 rfl ?_
    rw [if_pos c14]
    exact ⟨rfl, rfl, rfl, rfl, rfl⟩
set_option maxRecDepth 20000 in
theorem R_X12_define {l : Launch} {d : Nat} {D : zD} {b0 : Nat} {g : zG} {f M : zI} {o : Nat} (hW : RW b0 g o) (x : Int32) (hV : ¬ (x < 0 ∨ 3 < x) → pparseV M 1) (hd : 5 ≤ d) : zM l d D b0 mX12_define [.ref o, .int x] g (rv o f M) (zEx (some (.int ((pdefine M x).1))) g (rv o f ((pdefine M x).2))) := by
  have hPar := fun (h : pparseV M 1) => R_X12_parse (l := l) (d := d - 1) (D := D) (f := f) hW 1 h (by omega)
  unfold pdefine
  generalize pparse M 1 = P at hPar ⊢
  refine zM.start zmd_X12_define (Nat.le_of_ble_eq_true rfl) ⟨rfl, rfl, trivial⟩ [some (.ref o), some (.int x), none, none] rfl ?_
  refine z_iload1 dX12_define_0 ?_
  refine z_iconst (v := 0) dX12_define_1 (by decide) ?_
  refine z_iconst (v := 3) dX12_define_2 (by decide) ?_
  refine z_callSi zmd_X12_isIn zl_RX12_74 zst_X12_isIn (R_X12_isIn (d := d - 1) hW _ _ _) rfl rfl (by omega) rfl dX12_define_3 ?_
  refine z_if_ne (tgt := 11) dX12_define_6 (by decide) (fun c6 => ?_) (fun c6 => ?_)
  · show zS _ _ _ _ _ _ _ 11 _ _ _ _ _
    have hi : iv 4 x := iv_of (n := 3) (by decide) (zByes c6)
    have hi1 := hi.1
    refine z_aload0 dX12_define_11 ?_
    refine zr_getI fl_RX12_88 hW dX12_define_12 ?_
    refine z_istore2 dX12_define_15 ?_
    refine z_aload0 dX12_define_16 ?_
    refine z_iconst (v := 1) dX12_define_17 (by decide) ?_
    refine z_callVi zmd_X12_parse rfl (by decide) zl_RX12_162 zin_X12_parse zsel_X12_parse (hPar (hV (zByes c6))) hW.o rfl rfl (by omega) rfl dX12_define_18 ?_
    refine z_istore3 dX12_define_21 ?_
    refine z_iload3 dX12_define_22 ?_
    refine z_bipush (v := (-9)) dX12_define_23 (by decide) ?_
    refine z_icmp_ne (tgt := 36) dX12_define_25 (by decide) (fun c25 => ?_) (fun c25 => ?_)
    · show zS _ _ _ _ _ _ _ 36 _ _ _ _ _
      refine z_aload0 dX12_define_36 ?_
      refine z_getRs fl_RX12_14 (by decide) hW.o (hW.r 1 rfl) dX12_define_37 ?_
      refine z_iconst (v := 1) dX12_define_40 (by decide) ?_
      refine z_iload1 dX12_define_41 ?_
      refine z_iadd dX12_define_42 ?_
      refine z_iload3 dX12_define_43 ?_
      refine zr_st hW (i := 1) rfl (by decide) (by decide) (ixA (ixC 1) hi.2) (by omega) dX12_define_44 ?_
      refine z_aload0 dX12_define_45 ?_
      refine zr_getI fl_RX12_91 hW dX12_define_46 ?_
      refine z_iret dX12_define_49 rfl ?_
      rw [if_neg (zByes c6), if_neg c25]
      exact ⟨rfl, rfl, rfl, rfl, rfl⟩
    · show zS _ _ _ _ _ _ _ 28 _ _ _ _ _
      refine z_aload0 dX12_define_28 ?_
      refine z_iload2 dX12_define_29 ?_
      refine zr_putI fl_RX12_88 hW dX12_define_30 ?_
      refine z_bipush (v := (-2)) dX12_define_33 (by decide) ?_
      refine z_iret dX12_define_35 rfl ?_
      rw [if_neg (zByes c6), if_pos c25]
      exact ⟨rfl, rfl, rfl, rfl, rfl⟩
  · show zS _ _ _ _ _ _ _ 9 _ _ _ _ _
    refine z_iconst (v := (-1)) dX12_define_9 (by decide) ?_
    refine z_iret dX12_define_10 rfl ?_
    rw [if_pos (zBno c6)]
    exact ⟨rfl, rfl, rfl, rfl, rfl⟩
