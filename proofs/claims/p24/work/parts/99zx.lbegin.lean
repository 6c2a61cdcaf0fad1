/-! The law's writer: an expression is begun. -/
section LBE
variable {l : Launch} {d : Nat} {D : zD} {b0 n0 c k a : Nat} {g0 g : zG} {f0 f M0 M : zI} {tx : List Nat} {J : List WIt}
theorem IOK_E {b : Int32} {mf : Bool} (h : BOK b) : IOK (itE b mf) := h
theorem IOK_S {ch : Nat} (h1 : 32 ≤ ch) (h2 : ch ≤ 126) : IOK (itS ch) := ⟨h1, h2⟩
set_option maxHeartbeats 2000000 in
theorem L_begin (h : WS b0 n0 c k a M0 g0 f0 M g f tx J) (hd : 2 ≤ d) (hl : tx.length + 2 ≤ 120) (hJ : J.length + 5 ≤ 64) {jb : Nat} (hjb : jb < 8) (mf : Bool) (v more : Int32) {q nm z dg z4 o : Nat} (eq : lw v 14 = nI q) (hq : q < 14) (enm : lw more 3 = nI nm) (hnm : nm < 3) (ez : lw more 2 = nI z) (hz : z < 2) (edg : lw (more >>> ((2 : Int32) &&& 31)) 10 = nI dg) (hdg : dg < 10) (ez4 : lw more 4 = nI z4) (hz4 : z4 < 4) (eo : lw (more >>> ((2 : Int32) &&& 31)) 3 = nI o) (ho : o < 3) :
    zM l d D b0 mL_begin [.ref c, .ref a, .int (nI J.length), .int (nI (8388608 * jb)), .int (if mf = true then 1 else 0), .int v, .int more] g f (fun r G F mc ms => r = some (.int (nI (hiS (nI (8388608 * jb)) mf q nm o ++ J).length)) ∧ mc = 0 ∧ ms = 0 ∧ ∃ M', WS b0 n0 c k a M0 g0 f0 M' G F (tx ++ hbS (nI (8388608 * jb)) mf q nm z dg z4 o) (hiS (nI (8388608 * jb)) mf q nm o ++ J)) := by
  have hbk : BOK (nI (8388608 * jb)) := ⟨jb, hjb, rfl⟩
  have hbo : BOK (nI (8388608 * jb) ||| ((1 : Int32) <<< (nI (23 + nm) &&& 31))) := by
    obtain ⟨j', j1, j2⟩ := BOK_or jb hjb nm hnm
    exact ⟨j', j1, j2⟩
  have h96 : q < 2 → zS l d D b0 mL_begin 0 0 96 [some (.ref c), some (.ref a), some (.int (nI J.length)), some (.int (nI (8388608 * jb))), some (.int (if mf = true then 1 else 0)), some (.int v), some (.int more), some (.int (enE (nI (8388608 * jb)) mf)), some (.int (nI nm)), some (.int (nI J.length)), some (.int 0), none] [] g f (zq D b0 (fun r G F mc ms => r = some (.int (nI (hiS (nI (8388608 * jb)) mf q nm o ++ J).length)) ∧ mc = 0 ∧ ms = 0 ∧ ∃ M', WS b0 n0 c k a M0 g0 f0 M' G F (tx ++ hbS (nI (8388608 * jb)) mf q nm z dg z4 o) (hiS (nI (8388608 * jb)) mf q nm o ++ J))) := fun hc => by
    have e2 : hiS (nI (8388608 * jb)) mf q nm o = [] := if_pos hc
    have e1 : hbS (nI (8388608 * jb)) mf q nm z dg z4 o = (if (nI (8388608 * jb) >>> (nI (23 + nm) &&& 31)) &&& 1 = 1 then [120 + nm] else [48 + dg, 32]) := if_pos hc
    rw [e2, e1, List.nil_append]
    refine z_iload3 dL_begin_96 ?_
    refine z_bipush (v := 23) dL_begin_97 (by decide) ?_
    refine z_iload8 dL_begin_99 ?_
    refine z_iadd dL_begin_101 ?_
    rw [show (23 : Int32) + nI nm = nI (23 + nm) from ixA (ixC 23) rfl]
    refine z_ishr dL_begin_102 ?_
    refine z_iconst (v := 1) dL_begin_103 (by decide) ?_
    refine z_iand dL_begin_104 ?_
    refine z_iconst (v := 1) dL_begin_105 (by decide) ?_
    by_cases qb : (nI (8388608 * jb) >>> (nI (23 + nm) &&& 31)) &&& 1 = 1
    · rw [if_pos qb]
      refine z_icmp_ne (tgt := 113) dL_begin_106 (by decide) (fun c106 => absurd qb c106) (fun _ => ?_)
      show zS _ _ _ _ _ _ _ 109 _ _ _ _ _
      refine z_iconst (v := 1) dL_begin_109 (by decide) ?_
      refine z_goto (tgt := 114) dL_begin_110 (by decide) ?_
      show zS _ _ _ _ _ _ _ 114 _ _ _ _ _
      refine z_istore11 dL_begin_114 ?_
      refine z_aload0 dL_begin_116 ?_
      refine z_iload11 dL_begin_117 ?_
      refine z_if_eq (tgt := 130) dL_begin_119 (by decide) (fun c119 => absurd c119 (by decide)) (fun _ => ?_)
      show zS _ _ _ _ _ _ _ 122 _ _ _ _ _
      refine z_bipush (v := 120) dL_begin_122 (by decide) ?_
      refine z_iload8 dL_begin_124 ?_
      refine z_iadd dL_begin_126 ?_
      rw [show (120 : Int32) + nI nm = nI (120 + nm) from ixA (ixC 120) rfl]
      refine z_goto (tgt := 142) dL_begin_127 (by decide) ?_
      show zS _ _ _ _ _ _ _ 142 _ _ _ _ _
      refine z_callS zmd_L_sign zl_RL_20 zst_L_sign (L_wsign (d := d - 1) h (by omega) (ch := 120 + nm) (by omega) (by omega) (by omega)) rfl rfl (by omega) rfl dL_begin_142 (fun r1 g1 f1 mc1 ms1 q1 => ?_)
      obtain ⟨⟨x1, rfl⟩, rfl, rfl, M1, w1⟩ := q1
      refine z_istore10 dL_begin_145 ?_
      refine z_iload11 dL_begin_147 ?_
      refine z_if_eq (tgt := 157) dL_begin_149 (by decide) (fun c149 => absurd c149 (by decide)) (fun _ => ?_)
      show zS _ _ _ _ _ _ _ 152 _ _ _ _ _
      refine z_iload9 dL_begin_152 ?_
      refine z_goto (tgt := 163) dL_begin_154 (by decide) ?_
      show zS _ _ _ _ _ _ _ 163 _ _ _ _ _
      refine z_iret dL_begin_163 rfl ?_
      exact ⟨rfl, rfl, rfl, _, w1⟩
    · rw [if_neg qb]
      refine z_icmp_ne (tgt := 113) dL_begin_106 (by decide) (fun _ => ?_) (fun c106 => absurd c106 qb)
      show zS _ _ _ _ _ _ _ 113 _ _ _ _ _
      refine z_iconst (v := 0) dL_begin_113 (by decide) ?_
      refine z_istore11 dL_begin_114 ?_
      refine z_aload0 dL_begin_116 ?_
      refine z_iload11 dL_begin_117 ?_
      refine z_if_eq (tgt := 130) dL_begin_119 (by decide) (fun _ => ?_) (fun c119 => absurd rfl c119)
      show zS _ _ _ _ _ _ _ 130 _ _ _ _ _
      refine z_bipush (v := 48) dL_begin_130 (by decide) ?_
      refine z_iload6 dL_begin_132 ?_
      refine z_iconst (v := 2) dL_begin_134 (by decide) ?_
      refine z_ishr dL_begin_135 ?_
      refine z_bipush (v := 10) dL_begin_136 (by decide) ?_
      refine z_callSi zmd_L_low zl_RL_35 zst_L_low (L_low _ _ (by decide)) rfl rfl (by omega) rfl dL_begin_138 ?_
      rw [show lw (more >>> ((2 : Int32) &&& 31)) 10 = _ from edg]
      refine z_iadd dL_begin_141 ?_
      rw [show (48 : Int32) + nI dg = nI (48 + dg) from ixA (ixC 48) rfl]
      refine z_callS zmd_L_sign zl_RL_20 zst_L_sign (L_wsign (d := d - 1) h (by omega) (ch := 48 + dg) (by omega) (by omega) (by omega)) rfl rfl (by omega) rfl dL_begin_142 (fun r1 g1 f1 mc1 ms1 q1 => ?_)
      obtain ⟨⟨x1, rfl⟩, rfl, rfl, M1, w1⟩ := q1
      refine z_istore10 dL_begin_145 ?_
      refine z_iload11 dL_begin_147 ?_
      refine z_if_eq (tgt := 157) dL_begin_149 (by decide) (fun _ => ?_) (fun c149 => absurd rfl c149)
      show zS _ _ _ _ _ _ _ 157 _ _ _ _ _
      refine z_aload0 dL_begin_157 ?_
      refine z_iload9 dL_begin_158 ?_
      refine z_callS zmd_L_blank zl_RL_39 zst_L_blank (L_wblank (d := d - 1) w1 (by omega) _ (by rw [List.length_append]; show tx.length + 1 < 120; omega)) rfl rfl (by omega) rfl dL_begin_160 (fun r2 g2 f2 mc2 ms2 q2 => ?_)
      obtain ⟨rfl, rfl, rfl, M2, w2⟩ := q2
      rw [List.append_assoc] at w2
      refine z_iret dL_begin_163 rfl ?_
      exact ⟨rfl, rfl, rfl, _, w2⟩
  have h164 : q = 2 → zS l d D b0 mL_begin 0 0 164 [some (.ref c), some (.ref a), some (.int (nI J.length)), some (.int (nI (8388608 * jb))), some (.int (if mf = true then 1 else 0)), some (.int v), some (.int more), some (.int (enE (nI (8388608 * jb)) mf)), some (.int (nI nm)), some (.int (nI J.length)), some (.int 0), none] [] g f (zq D b0 (fun r G F mc ms => r = some (.int (nI (hiS (nI (8388608 * jb)) mf q nm o ++ J).length)) ∧ mc = 0 ∧ ms = 0 ∧ ∃ M', WS b0 n0 c k a M0 g0 f0 M' G F (tx ++ hbS (nI (8388608 * jb)) mf q nm z dg z4 o) (hiS (nI (8388608 * jb)) mf q nm o ++ J))) := fun hc => by
    subst hc
    by_cases hz0 : z = 0
    · have e2 : hiS (nI (8388608 * jb)) mf 2 nm o = [itE (nI (8388608 * jb)) mf, itE (nI (8388608 * jb)) mf] := rfl
      have e1 : hbS (nI (8388608 * jb)) mf 2 nm z dg z4 o = [43] := congrArg (fun y => [y]) (if_pos hz0)
      rw [e2, e1]
      refine z_aload0 dL_begin_164 ?_
      refine z_iload6 dL_begin_165 ?_
      refine z_iconst (v := 2) dL_begin_167 (by decide) ?_
      refine z_callSi zmd_L_low zl_RL_35 zst_L_low (L_low _ _ (by decide)) rfl rfl (by omega) rfl dL_begin_168 ?_
      rw [show lw more 2 = _ from ez]
      refine z_if_ne (tgt := 179) dL_begin_171 (by decide) (fun c171 => absurd (by rw [hz0]; rfl) c171) (fun _ => ?_)
      show zS _ _ _ _ _ _ _ 174 _ _ _ _ _
      refine z_bipush (v := 43) dL_begin_174 (by decide) ?_
      refine z_goto (tgt := 181) dL_begin_176 (by decide) ?_
      show zS _ _ _ _ _ _ _ 181 _ _ _ _ _
      refine z_callS zmd_L_sign zl_RL_20 zst_L_sign (L_wsign (d := d - 1) h (by omega) (ch := 43) (by omega) (by omega) (by omega)) rfl rfl (by omega) rfl dL_begin_181 (fun r1 g1 f1 mc1 ms1 q1 => ?_)
      obtain ⟨⟨x1, rfl⟩, rfl, rfl, M1, w1⟩ := q1
      refine z_istore10 dL_begin_184 ?_
      refine z_aload1 dL_begin_186 ?_
      refine z_iload9 dL_begin_187 ?_
      refine z_iload7 dL_begin_189 ?_
      refine z_iastE w1.1.2.2.1.1 w1.1.2.2.1.2 rfl (by omega) (by decide) dL_begin_191 ?_
      have w2 := w1.arr (it := itE (nI (8388608 * jb)) mf) (IOK_E hbk)
      refine z_aload1 dL_begin_192 ?_
      refine z_iload9 dL_begin_193 ?_
      refine z_iconst (v := 1) dL_begin_195 (by decide) ?_
      refine z_iadd dL_begin_196 ?_
      refine z_iload7 dL_begin_197 ?_
      refine z_iastE w2.1.2.2.1.1 w2.1.2.2.1.2 (ixA rfl (ixC 1)) (by omega) (by decide) dL_begin_199 ?_
      have w3 := w2.arr (it := itE (nI (8388608 * jb)) mf) (IOK_E hbk)
      refine z_iload9 dL_begin_200 ?_
      refine z_iconst (v := 2) dL_begin_202 (by decide) ?_
      refine z_iadd dL_begin_203 ?_
      refine z_iret dL_begin_204 rfl ?_
      exact ⟨congrArg (fun y => some (Value.int y)) (show nI J.length + 2 = nI (J.length + 2) from ixA rfl (ixC 2)), rfl, rfl, _, w3⟩
    · have e2 : hiS (nI (8388608 * jb)) mf 2 nm o = [itE (nI (8388608 * jb)) mf, itE (nI (8388608 * jb)) mf] := rfl
      have e1 : hbS (nI (8388608 * jb)) mf 2 nm z dg z4 o = [45] := congrArg (fun y => [y]) (if_neg hz0)
      rw [e2, e1]
      refine z_aload0 dL_begin_164 ?_
      refine z_iload6 dL_begin_165 ?_
      refine z_iconst (v := 2) dL_begin_167 (by decide) ?_
      refine z_callSi zmd_L_low zl_RL_35 zst_L_low (L_low _ _ (by decide)) rfl rfl (by omega) rfl dL_begin_168 ?_
      rw [show lw more 2 = _ from ez]
      refine z_if_ne (tgt := 179) dL_begin_171 (by decide) (fun _ => ?_) (fun c171 => absurd ((nI_eq (b := 0) (by omega) (by decide)).mp c171) hz0)
      show zS _ _ _ _ _ _ _ 179 _ _ _ _ _
      refine z_bipush (v := 45) dL_begin_179 (by decide) ?_
      refine z_callS zmd_L_sign zl_RL_20 zst_L_sign (L_wsign (d := d - 1) h (by omega) (ch := 45) (by omega) (by omega) (by omega)) rfl rfl (by omega) rfl dL_begin_181 (fun r1 g1 f1 mc1 ms1 q1 => ?_)
      obtain ⟨⟨x1, rfl⟩, rfl, rfl, M1, w1⟩ := q1
      refine z_istore10 dL_begin_184 ?_
      refine z_aload1 dL_begin_186 ?_
      refine z_iload9 dL_begin_187 ?_
      refine z_iload7 dL_begin_189 ?_
      refine z_iastE w1.1.2.2.1.1 w1.1.2.2.1.2 rfl (by omega) (by decide) dL_begin_191 ?_
      have w2 := w1.arr (it := itE (nI (8388608 * jb)) mf) (IOK_E hbk)
      refine z_aload1 dL_begin_192 ?_
      refine z_iload9 dL_begin_193 ?_
      refine z_iconst (v := 1) dL_begin_195 (by decide) ?_
      refine z_iadd dL_begin_196 ?_
      refine z_iload7 dL_begin_197 ?_
      refine z_iastE w2.1.2.2.1.1 w2.1.2.2.1.2 (ixA rfl (ixC 1)) (by omega) (by decide) dL_begin_199 ?_
      have w3 := w2.arr (it := itE (nI (8388608 * jb)) mf) (IOK_E hbk)
      refine z_iload9 dL_begin_200 ?_
      refine z_iconst (v := 2) dL_begin_202 (by decide) ?_
      refine z_iadd dL_begin_203 ?_
      refine z_iret dL_begin_204 rfl ?_
      exact ⟨congrArg (fun y => some (Value.int y)) (show nI J.length + 2 = nI (J.length + 2) from ixA rfl (ixC 2)), rfl, rfl, _, w3⟩
  have h205 : q = 3 → zS l d D b0 mL_begin 0 0 205 [some (.ref c), some (.ref a), some (.int (nI J.length)), some (.int (nI (8388608 * jb))), some (.int (if mf = true then 1 else 0)), some (.int v), some (.int more), some (.int (enE (nI (8388608 * jb)) mf)), some (.int (nI nm)), some (.int (nI J.length)), some (.int 0), none] [] g f (zq D b0 (fun r G F mc ms => r = some (.int (nI (hiS (nI (8388608 * jb)) mf q nm o ++ J).length)) ∧ mc = 0 ∧ ms = 0 ∧ ∃ M', WS b0 n0 c k a M0 g0 f0 M' G F (tx ++ hbS (nI (8388608 * jb)) mf q nm z dg z4 o) (hiS (nI (8388608 * jb)) mf q nm o ++ J))) := fun hc => by
    subst hc
    by_cases hz0 : z = 0
    · have e2 : hiS (nI (8388608 * jb)) mf 3 nm o = [itE (nI (8388608 * jb)) mf, itE (nI (8388608 * jb)) mf] := rfl
      have e1 : hbS (nI (8388608 * jb)) mf 3 nm z dg z4 o = [59] := congrArg (fun y => [y]) (if_pos hz0)
      rw [e2, e1]
      refine z_aload0 dL_begin_205 ?_
      refine z_iload6 dL_begin_206 ?_
      refine z_iconst (v := 2) dL_begin_208 (by decide) ?_
      refine z_callSi zmd_L_low zl_RL_35 zst_L_low (L_low _ _ (by decide)) rfl rfl (by omega) rfl dL_begin_209 ?_
      rw [show lw more 2 = _ from ez]
      refine z_if_ne (tgt := 220) dL_begin_212 (by decide) (fun c212 => absurd (by rw [hz0]; rfl) c212) (fun _ => ?_)
      show zS _ _ _ _ _ _ _ 215 _ _ _ _ _
      refine z_bipush (v := 59) dL_begin_215 (by decide) ?_
      refine z_goto (tgt := 222) dL_begin_217 (by decide) ?_
      show zS _ _ _ _ _ _ _ 222 _ _ _ _ _
      refine z_callS zmd_L_sign zl_RL_20 zst_L_sign (L_wsign (d := d - 1) h (by omega) (ch := 59) (by omega) (by omega) (by omega)) rfl rfl (by omega) rfl dL_begin_222 (fun r1 g1 f1 mc1 ms1 q1 => ?_)
      obtain ⟨⟨x1, rfl⟩, rfl, rfl, M1, w1⟩ := q1
      refine z_istore10 dL_begin_225 ?_
      refine z_aload1 dL_begin_227 ?_
      refine z_iload9 dL_begin_228 ?_
      refine z_iload7 dL_begin_230 ?_
      refine z_iastE w1.1.2.2.1.1 w1.1.2.2.1.2 rfl (by omega) (by decide) dL_begin_232 ?_
      have w2 := w1.arr (it := itE (nI (8388608 * jb)) mf) (IOK_E hbk)
      refine z_aload1 dL_begin_233 ?_
      refine z_iload9 dL_begin_234 ?_
      refine z_iconst (v := 1) dL_begin_236 (by decide) ?_
      refine z_iadd dL_begin_237 ?_
      refine z_iload7 dL_begin_238 ?_
      refine z_iastE w2.1.2.2.1.1 w2.1.2.2.1.2 (ixA rfl (ixC 1)) (by omega) (by decide) dL_begin_240 ?_
      have w3 := w2.arr (it := itE (nI (8388608 * jb)) mf) (IOK_E hbk)
      refine z_iload9 dL_begin_241 ?_
      refine z_iconst (v := 2) dL_begin_243 (by decide) ?_
      refine z_iadd dL_begin_244 ?_
      refine z_iret dL_begin_245 rfl ?_
      exact ⟨congrArg (fun y => some (Value.int y)) (show nI J.length + 2 = nI (J.length + 2) from ixA rfl (ixC 2)), rfl, rfl, _, w3⟩
    · have e2 : hiS (nI (8388608 * jb)) mf 3 nm o = [itE (nI (8388608 * jb)) mf, itE (nI (8388608 * jb)) mf] := rfl
      have e1 : hbS (nI (8388608 * jb)) mf 3 nm z dg z4 o = [37] := congrArg (fun y => [y]) (if_neg hz0)
      rw [e2, e1]
      refine z_aload0 dL_begin_205 ?_
      refine z_iload6 dL_begin_206 ?_
      refine z_iconst (v := 2) dL_begin_208 (by decide) ?_
      refine z_callSi zmd_L_low zl_RL_35 zst_L_low (L_low _ _ (by decide)) rfl rfl (by omega) rfl dL_begin_209 ?_
      rw [show lw more 2 = _ from ez]
      refine z_if_ne (tgt := 220) dL_begin_212 (by decide) (fun _ => ?_) (fun c212 => absurd ((nI_eq (b := 0) (by omega) (by decide)).mp c212) hz0)
      show zS _ _ _ _ _ _ _ 220 _ _ _ _ _
      refine z_bipush (v := 37) dL_begin_220 (by decide) ?_
      refine z_callS zmd_L_sign zl_RL_20 zst_L_sign (L_wsign (d := d - 1) h (by omega) (ch := 37) (by omega) (by omega) (by omega)) rfl rfl (by omega) rfl dL_begin_222 (fun r1 g1 f1 mc1 ms1 q1 => ?_)
      obtain ⟨⟨x1, rfl⟩, rfl, rfl, M1, w1⟩ := q1
      refine z_istore10 dL_begin_225 ?_
      refine z_aload1 dL_begin_227 ?_
      refine z_iload9 dL_begin_228 ?_
      refine z_iload7 dL_begin_230 ?_
      refine z_iastE w1.1.2.2.1.1 w1.1.2.2.1.2 rfl (by omega) (by decide) dL_begin_232 ?_
      have w2 := w1.arr (it := itE (nI (8388608 * jb)) mf) (IOK_E hbk)
      refine z_aload1 dL_begin_233 ?_
      refine z_iload9 dL_begin_234 ?_
      refine z_iconst (v := 1) dL_begin_236 (by decide) ?_
      refine z_iadd dL_begin_237 ?_
      refine z_iload7 dL_begin_238 ?_
      refine z_iastE w2.1.2.2.1.1 w2.1.2.2.1.2 (ixA rfl (ixC 1)) (by omega) (by decide) dL_begin_240 ?_
      have w3 := w2.arr (it := itE (nI (8388608 * jb)) mf) (IOK_E hbk)
      refine z_iload9 dL_begin_241 ?_
      refine z_iconst (v := 2) dL_begin_243 (by decide) ?_
      refine z_iadd dL_begin_244 ?_
      refine z_iret dL_begin_245 rfl ?_
      exact ⟨congrArg (fun y => some (Value.int y)) (show nI J.length + 2 = nI (J.length + 2) from ixA rfl (ixC 2)), rfl, rfl, _, w3⟩
  have h246 : q = 4 → zS l d D b0 mL_begin 0 0 246 [some (.ref c), some (.ref a), some (.int (nI J.length)), some (.int (nI (8388608 * jb))), some (.int (if mf = true then 1 else 0)), some (.int v), some (.int more), some (.int (enE (nI (8388608 * jb)) mf)), some (.int (nI nm)), some (.int (nI J.length)), some (.int 0), none] [] g f (zq D b0 (fun r G F mc ms => r = some (.int (nI (hiS (nI (8388608 * jb)) mf q nm o ++ J).length)) ∧ mc = 0 ∧ ms = 0 ∧ ∃ M', WS b0 n0 c k a M0 g0 f0 M' G F (tx ++ hbS (nI (8388608 * jb)) mf q nm z dg z4 o) (hiS (nI (8388608 * jb)) mf q nm o ++ J))) := fun hc => by
    subst hc
    have e2 : hiS (nI (8388608 * jb)) mf 4 nm o = [itE (nI (8388608 * jb)) mf, itE (nI (8388608 * jb) ||| ((1 : Int32) <<< (nI (23 + nm) &&& 31))) mf] := rfl
    have e1 : hbS (nI (8388608 * jb)) mf 4 nm z dg z4 o = [61, 120 + nm] := rfl
    rw [e2, e1]
    refine z_aload0 dL_begin_246 ?_
    refine z_bipush (v := 61) dL_begin_247 (by decide) ?_
    refine z_callS zmd_L_sign zl_RL_20 zst_L_sign (L_wsign (d := d - 1) h (by omega) (ch := 61) (by omega) (by omega) (by omega)) rfl rfl (by omega) rfl dL_begin_249 (fun r1 g1 f1 mc1 ms1 q1 => ?_)
    obtain ⟨⟨x1, rfl⟩, rfl, rfl, M1, w1⟩ := q1
    refine z_istore10 dL_begin_252 ?_
    refine z_aload0 dL_begin_254 ?_
    refine z_bipush (v := 120) dL_begin_255 (by decide) ?_
    refine z_iload8 dL_begin_257 ?_
    refine z_iadd dL_begin_259 ?_
    rw [show (120 : Int32) + nI nm = nI (120 + nm) from ixA (ixC 120) rfl]
    refine z_callS zmd_L_sign zl_RL_20 zst_L_sign (L_wsign (d := d - 1) w1 (by omega) (ch := 120 + nm) (by omega) (by omega) (by rw [List.length_append]; show tx.length + 1 < 120; omega)) rfl rfl (by omega) rfl dL_begin_260 (fun r2 g2 f2 mc2 ms2 q2 => ?_)
    obtain ⟨⟨x2, rfl⟩, rfl, rfl, M2, w2⟩ := q2
    rw [List.append_assoc] at w2
    refine z_istore10 dL_begin_263 ?_
    refine z_aload1 dL_begin_265 ?_
    refine z_iload9 dL_begin_266 ?_
    refine z_iload7 dL_begin_268 ?_
    refine z_iconst (v := 1) dL_begin_270 (by decide) ?_
    refine z_bipush (v := 23) dL_begin_271 (by decide) ?_
    refine z_iload8 dL_begin_273 ?_
    refine z_iadd dL_begin_275 ?_
    rw [show (23 : Int32) + nI nm = nI (23 + nm) from ixA (ixC 23) rfl]
    refine z_ishl dL_begin_276 ?_
    refine z_ior dL_begin_277 ?_
    rw [(enE_x jb hjb nm hnm mf).1]
    refine z_iastE w2.1.2.2.1.1 w2.1.2.2.1.2 rfl (by omega) (by decide) dL_begin_278 ?_
    have w3 := w2.arr (it := itE (nI (8388608 * jb) ||| ((1 : Int32) <<< (nI (23 + nm) &&& 31))) mf) (IOK_E hbo)
    refine z_aload1 dL_begin_279 ?_
    refine z_iload9 dL_begin_280 ?_
    refine z_iconst (v := 1) dL_begin_282 (by decide) ?_
    refine z_iadd dL_begin_283 ?_
    refine z_iload7 dL_begin_284 ?_
    refine z_iastE w3.1.2.2.1.1 w3.1.2.2.1.2 (ixA rfl (ixC 1)) (by omega) (by decide) dL_begin_286 ?_
    have w4 := w3.arr (it := itE (nI (8388608 * jb)) mf) (IOK_E hbk)
    refine z_iload9 dL_begin_287 ?_
    refine z_iconst (v := 2) dL_begin_289 (by decide) ?_
    refine z_iadd dL_begin_290 ?_
    refine z_iret dL_begin_291 rfl ?_
    exact ⟨congrArg (fun y => some (Value.int y)) (show nI J.length + 2 = nI (J.length + 2) from ixA rfl (ixC 2)), rfl, rfl, _, w4⟩
  have h292 : q = 5 ∨ q = 6 → zS l d D b0 mL_begin 0 0 292 [some (.ref c), some (.ref a), some (.int (nI J.length)), some (.int (nI (8388608 * jb))), some (.int (if mf = true then 1 else 0)), some (.int v), some (.int more), some (.int (enE (nI (8388608 * jb)) mf)), some (.int (nI nm)), some (.int (nI J.length)), some (.int 0), none] [] g f (zq D b0 (fun r G F mc ms => r = some (.int (nI (hiS (nI (8388608 * jb)) mf q nm o ++ J).length)) ∧ mc = 0 ∧ ms = 0 ∧ ∃ M', WS b0 n0 c k a M0 g0 f0 M' G F (tx ++ hbS (nI (8388608 * jb)) mf q nm z dg z4 o) (hiS (nI (8388608 * jb)) mf q nm o ++ J))) := fun hc => by
    have e2 : hiS (nI (8388608 * jb)) mf q nm o = [itE (nI (8388608 * jb)) mf] := by rcases hc with rfl | rfl <;> rfl
    have e1 : hbS (nI (8388608 * jb)) mf q nm z dg z4 o = [if z4 = 0 then 126 else 94, 65 + o] := by rcases hc with rfl | rfl <;> rfl
    rw [e2, e1]
    by_cases hz0 : z4 = 0
    · rw [if_pos hz0]
      refine z_aload0 dL_begin_292 ?_
      refine z_iload6 dL_begin_293 ?_
      refine z_iconst (v := 4) dL_begin_295 (by decide) ?_
      refine z_callSi zmd_L_low zl_RL_35 zst_L_low (L_low _ _ (by decide)) rfl rfl (by omega) rfl dL_begin_296 ?_
      rw [show lw more 4 = _ from ez4]
      refine z_if_ne (tgt := 307) dL_begin_299 (by decide) (fun c299 => absurd (by rw [hz0]; rfl) c299) (fun _ => ?_)
      show zS _ _ _ _ _ _ _ 302 _ _ _ _ _
      refine z_bipush (v := 126) dL_begin_302 (by decide) ?_
      refine z_goto (tgt := 309) dL_begin_304 (by decide) ?_
      show zS _ _ _ _ _ _ _ 309 _ _ _ _ _
      refine z_callS zmd_L_sign zl_RL_20 zst_L_sign (L_wsign (d := d - 1) h (by omega) (ch := 126) (by omega) (by omega) (by omega)) rfl rfl (by omega) rfl dL_begin_309 (fun r1 g1 f1 mc1 ms1 q1 => ?_)
      obtain ⟨⟨x1, rfl⟩, rfl, rfl, M1, w1⟩ := q1
      refine z_istore10 dL_begin_312 ?_
      refine z_aload0 dL_begin_314 ?_
      refine z_bipush (v := 65) dL_begin_315 (by decide) ?_
      refine z_iload6 dL_begin_317 ?_
      refine z_iconst (v := 2) dL_begin_319 (by decide) ?_
      refine z_ishr dL_begin_320 ?_
      refine z_iconst (v := 3) dL_begin_321 (by decide) ?_
      refine z_callSi zmd_L_low zl_RL_35 zst_L_low (L_low _ _ (by decide)) rfl rfl (by omega) rfl dL_begin_322 ?_
      rw [show lw (more >>> ((2 : Int32) &&& 31)) 3 = _ from eo]
      refine z_iadd dL_begin_325 ?_
      rw [show (65 : Int32) + nI o = nI (65 + o) from ixA (ixC 65) rfl]
      refine z_callS zmd_L_sign zl_RL_20 zst_L_sign (L_wsign (d := d - 1) w1 (by omega) (ch := 65 + o) (by omega) (by omega) (by rw [List.length_append]; show tx.length + 1 < 120; omega)) rfl rfl (by omega) rfl dL_begin_326 (fun r2 g2 f2 mc2 ms2 q2 => ?_)
      obtain ⟨⟨x2, rfl⟩, rfl, rfl, M2, w2⟩ := q2
      rw [List.append_assoc] at w2
      refine z_istore10 dL_begin_329 ?_
      refine z_aload1 dL_begin_331 ?_
      refine z_iload9 dL_begin_332 ?_
      refine z_iload7 dL_begin_334 ?_
      refine z_iastE w2.1.2.2.1.1 w2.1.2.2.1.2 rfl (by omega) (by decide) dL_begin_336 ?_
      have w3 := w2.arr (it := itE (nI (8388608 * jb)) mf) (IOK_E hbk)
      refine z_iload9 dL_begin_337 ?_
      refine z_iconst (v := 1) dL_begin_339 (by decide) ?_
      refine z_iadd dL_begin_340 ?_
      refine z_iret dL_begin_341 rfl ?_
      exact ⟨congrArg (fun y => some (Value.int y)) (show nI J.length + 1 = nI (J.length + 1) from ixA rfl (ixC 1)), rfl, rfl, _, w3⟩
    · rw [if_neg hz0]
      refine z_aload0 dL_begin_292 ?_
      refine z_iload6 dL_begin_293 ?_
      refine z_iconst (v := 4) dL_begin_295 (by decide) ?_
      refine z_callSi zmd_L_low zl_RL_35 zst_L_low (L_low _ _ (by decide)) rfl rfl (by omega) rfl dL_begin_296 ?_
      rw [show lw more 4 = _ from ez4]
      refine z_if_ne (tgt := 307) dL_begin_299 (by decide) (fun _ => ?_) (fun c299 => absurd ((nI_eq (b := 0) (by omega) (by decide)).mp c299) hz0)
      show zS _ _ _ _ _ _ _ 307 _ _ _ _ _
      refine z_bipush (v := 94) dL_begin_307 (by decide) ?_
      refine z_callS zmd_L_sign zl_RL_20 zst_L_sign (L_wsign (d := d - 1) h (by omega) (ch := 94) (by omega) (by omega) (by omega)) rfl rfl (by omega) rfl dL_begin_309 (fun r1 g1 f1 mc1 ms1 q1 => ?_)
      obtain ⟨⟨x1, rfl⟩, rfl, rfl, M1, w1⟩ := q1
      refine z_istore10 dL_begin_312 ?_
      refine z_aload0 dL_begin_314 ?_
      refine z_bipush (v := 65) dL_begin_315 (by decide) ?_
      refine z_iload6 dL_begin_317 ?_
      refine z_iconst (v := 2) dL_begin_319 (by decide) ?_
      refine z_ishr dL_begin_320 ?_
      refine z_iconst (v := 3) dL_begin_321 (by decide) ?_
      refine z_callSi zmd_L_low zl_RL_35 zst_L_low (L_low _ _ (by decide)) rfl rfl (by omega) rfl dL_begin_322 ?_
      rw [show lw (more >>> ((2 : Int32) &&& 31)) 3 = _ from eo]
      refine z_iadd dL_begin_325 ?_
      rw [show (65 : Int32) + nI o = nI (65 + o) from ixA (ixC 65) rfl]
      refine z_callS zmd_L_sign zl_RL_20 zst_L_sign (L_wsign (d := d - 1) w1 (by omega) (ch := 65 + o) (by omega) (by omega) (by rw [List.length_append]; show tx.length + 1 < 120; omega)) rfl rfl (by omega) rfl dL_begin_326 (fun r2 g2 f2 mc2 ms2 q2 => ?_)
      obtain ⟨⟨x2, rfl⟩, rfl, rfl, M2, w2⟩ := q2
      rw [List.append_assoc] at w2
      refine z_istore10 dL_begin_329 ?_
      refine z_aload1 dL_begin_331 ?_
      refine z_iload9 dL_begin_332 ?_
      refine z_iload7 dL_begin_334 ?_
      refine z_iastE w2.1.2.2.1.1 w2.1.2.2.1.2 rfl (by omega) (by decide) dL_begin_336 ?_
      have w3 := w2.arr (it := itE (nI (8388608 * jb)) mf) (IOK_E hbk)
      refine z_iload9 dL_begin_337 ?_
      refine z_iconst (v := 1) dL_begin_339 (by decide) ?_
      refine z_iadd dL_begin_340 ?_
      refine z_iret dL_begin_341 rfl ?_
      exact ⟨congrArg (fun y => some (Value.int y)) (show nI J.length + 1 = nI (J.length + 1) from ixA rfl (ixC 1)), rfl, rfl, _, w3⟩
  have h342 : q = 7 → zS l d D b0 mL_begin 0 0 342 [some (.ref c), some (.ref a), some (.int (nI J.length)), some (.int (nI (8388608 * jb))), some (.int (if mf = true then 1 else 0)), some (.int v), some (.int more), some (.int (enE (nI (8388608 * jb)) mf)), some (.int (nI nm)), some (.int (nI J.length)), some (.int 0), none] [] g f (zq D b0 (fun r G F mc ms => r = some (.int (nI (hiS (nI (8388608 * jb)) mf q nm o ++ J).length)) ∧ mc = 0 ∧ ms = 0 ∧ ∃ M', WS b0 n0 c k a M0 g0 f0 M' G F (tx ++ hbS (nI (8388608 * jb)) mf q nm z dg z4 o) (hiS (nI (8388608 * jb)) mf q nm o ++ J))) := fun hc => by
    subst hc
    have e2 : hiS (nI (8388608 * jb)) mf 7 nm o = [itE (nI (8388608 * jb)) mf] := rfl
    have e1 : hbS (nI (8388608 * jb)) mf 7 nm z dg z4 o = [33] := rfl
    rw [e2, e1]
    refine z_aload0 dL_begin_342 ?_
    refine z_bipush (v := 33) dL_begin_343 (by decide) ?_
    refine z_callS zmd_L_sign zl_RL_20 zst_L_sign (L_wsign (d := d - 1) h (by omega) (ch := 33) (by omega) (by omega) (by omega)) rfl rfl (by omega) rfl dL_begin_345 (fun r1 g1 f1 mc1 ms1 q1 => ?_)
    obtain ⟨⟨x1, rfl⟩, rfl, rfl, M1, w1⟩ := q1
    refine z_istore10 dL_begin_348 ?_
    refine z_aload1 dL_begin_350 ?_
    refine z_iload9 dL_begin_351 ?_
    refine z_iload7 dL_begin_353 ?_
    refine z_iastE w1.1.2.2.1.1 w1.1.2.2.1.2 rfl (by omega) (by decide) dL_begin_355 ?_
    have w2 := w1.arr (it := itE (nI (8388608 * jb)) mf) (IOK_E hbk)
    refine z_iload9 dL_begin_356 ?_
    refine z_iconst (v := 1) dL_begin_358 (by decide) ?_
    refine z_iadd dL_begin_359 ?_
    refine z_iret dL_begin_360 rfl ?_
    exact ⟨congrArg (fun y => some (Value.int y)) (show nI J.length + 1 = nI (J.length + 1) from ixA rfl (ixC 1)), rfl, rfl, _, w2⟩
  have h361 : q = 8 → zS l d D b0 mL_begin 0 0 361 [some (.ref c), some (.ref a), some (.int (nI J.length)), some (.int (nI (8388608 * jb))), some (.int (if mf = true then 1 else 0)), some (.int v), some (.int more), some (.int (enE (nI (8388608 * jb)) mf)), some (.int (nI nm)), some (.int (nI J.length)), some (.int 0), none] [] g f (zq D b0 (fun r G F mc ms => r = some (.int (nI (hiS (nI (8388608 * jb)) mf q nm o ++ J).length)) ∧ mc = 0 ∧ ms = 0 ∧ ∃ M', WS b0 n0 c k a M0 g0 f0 M' G F (tx ++ hbS (nI (8388608 * jb)) mf q nm z dg z4 o) (hiS (nI (8388608 * jb)) mf q nm o ++ J))) := fun hc => by
    subst hc
    have e2 : hiS (nI (8388608 * jb)) mf 8 nm o = [itE (nI (8388608 * jb)) mf] := rfl
    have e1 : hbS (nI (8388608 * jb)) mf 8 nm z dg z4 o = [38, 48 + z] := rfl
    rw [e2, e1]
    refine z_aload0 dL_begin_361 ?_
    refine z_bipush (v := 38) dL_begin_362 (by decide) ?_
    refine z_callS zmd_L_sign zl_RL_20 zst_L_sign (L_wsign (d := d - 1) h (by omega) (ch := 38) (by omega) (by omega) (by omega)) rfl rfl (by omega) rfl dL_begin_364 (fun r1 g1 f1 mc1 ms1 q1 => ?_)
    obtain ⟨⟨x1, rfl⟩, rfl, rfl, M1, w1⟩ := q1
    refine z_istore10 dL_begin_367 ?_
    refine z_aload0 dL_begin_369 ?_
    refine z_bipush (v := 48) dL_begin_370 (by decide) ?_
    refine z_iload6 dL_begin_372 ?_
    refine z_iconst (v := 2) dL_begin_374 (by decide) ?_
    refine z_callSi zmd_L_low zl_RL_35 zst_L_low (L_low _ _ (by decide)) rfl rfl (by omega) rfl dL_begin_375 ?_
    rw [show lw more 2 = _ from ez]
    refine z_iadd dL_begin_378 ?_
    rw [show (48 : Int32) + nI z = nI (48 + z) from ixA (ixC 48) rfl]
    refine z_callS zmd_L_sign zl_RL_20 zst_L_sign (L_wsign (d := d - 1) w1 (by omega) (ch := 48 + z) (by omega) (by omega) (by rw [List.length_append]; show tx.length + 1 < 120; omega)) rfl rfl (by omega) rfl dL_begin_379 (fun r2 g2 f2 mc2 ms2 q2 => ?_)
    obtain ⟨⟨x2, rfl⟩, rfl, rfl, M2, w2⟩ := q2
    rw [List.append_assoc] at w2
    refine z_istore10 dL_begin_382 ?_
    refine z_aload1 dL_begin_384 ?_
    refine z_iload9 dL_begin_385 ?_
    refine z_iload7 dL_begin_387 ?_
    refine z_iastE w2.1.2.2.1.1 w2.1.2.2.1.2 rfl (by omega) (by decide) dL_begin_389 ?_
    have w3 := w2.arr (it := itE (nI (8388608 * jb)) mf) (IOK_E hbk)
    refine z_iload9 dL_begin_390 ?_
    refine z_iconst (v := 1) dL_begin_392 (by decide) ?_
    refine z_iadd dL_begin_393 ?_
    refine z_iret dL_begin_394 rfl ?_
    exact ⟨congrArg (fun y => some (Value.int y)) (show nI J.length + 1 = nI (J.length + 1) from ixA rfl (ixC 1)), rfl, rfl, _, w3⟩
  have h395 : q = 9 → zS l d D b0 mL_begin 0 0 395 [some (.ref c), some (.ref a), some (.int (nI J.length)), some (.int (nI (8388608 * jb))), some (.int (if mf = true then 1 else 0)), some (.int v), some (.int more), some (.int (enE (nI (8388608 * jb)) mf)), some (.int (nI nm)), some (.int (nI J.length)), some (.int 0), none] [] g f (zq D b0 (fun r G F mc ms => r = some (.int (nI (hiS (nI (8388608 * jb)) mf q nm o ++ J).length)) ∧ mc = 0 ∧ ms = 0 ∧ ∃ M', WS b0 n0 c k a M0 g0 f0 M' G F (tx ++ hbS (nI (8388608 * jb)) mf q nm z dg z4 o) (hiS (nI (8388608 * jb)) mf q nm o ++ J))) := fun hc => by
    subst hc
    have e2 : hiS (nI (8388608 * jb)) mf 9 nm o = [itE (nI (8388608 * jb)) mf, itE (nI (8388608 * jb)) mf, itE (nI (8388608 * jb)) mf] := rfl
    have e1 : hbS (nI (8388608 * jb)) mf 9 nm z dg z4 o = [63] := rfl
    rw [e2, e1]
    refine z_aload0 dL_begin_395 ?_
    refine z_bipush (v := 63) dL_begin_396 (by decide) ?_
    refine z_callS zmd_L_sign zl_RL_20 zst_L_sign (L_wsign (d := d - 1) h (by omega) (ch := 63) (by omega) (by omega) (by omega)) rfl rfl (by omega) rfl dL_begin_398 (fun r1 g1 f1 mc1 ms1 q1 => ?_)
    obtain ⟨⟨x1, rfl⟩, rfl, rfl, M1, w1⟩ := q1
    refine z_istore10 dL_begin_401 ?_
    refine z_aload1 dL_begin_403 ?_
    refine z_iload9 dL_begin_404 ?_
    refine z_iload7 dL_begin_406 ?_
    refine z_iastE w1.1.2.2.1.1 w1.1.2.2.1.2 rfl (by omega) (by decide) dL_begin_408 ?_
    have w2 := w1.arr (it := itE (nI (8388608 * jb)) mf) (IOK_E hbk)
    refine z_aload1 dL_begin_409 ?_
    refine z_iload9 dL_begin_410 ?_
    refine z_iconst (v := 1) dL_begin_412 (by decide) ?_
    refine z_iadd dL_begin_413 ?_
    refine z_iload7 dL_begin_414 ?_
    refine z_iastE w2.1.2.2.1.1 w2.1.2.2.1.2 (ixA rfl (ixC 1)) (by omega) (by decide) dL_begin_416 ?_
    have w3 := w2.arr (it := itE (nI (8388608 * jb)) mf) (IOK_E hbk)
    refine z_aload1 dL_begin_417 ?_
    refine z_iload9 dL_begin_418 ?_
    refine z_iconst (v := 2) dL_begin_420 (by decide) ?_
    refine z_iadd dL_begin_421 ?_
    refine z_iload7 dL_begin_422 ?_
    refine z_iastE w3.1.2.2.1.1 w3.1.2.2.1.2 (ixA rfl (ixC 2)) (by omega) (by decide) dL_begin_424 ?_
    have w4 := w3.arr (it := itE (nI (8388608 * jb)) mf) (IOK_E hbk)
    refine z_iload9 dL_begin_425 ?_
    refine z_iconst (v := 3) dL_begin_427 (by decide) ?_
    refine z_iadd dL_begin_428 ?_
    refine z_iret dL_begin_429 rfl ?_
    exact ⟨congrArg (fun y => some (Value.int y)) (show nI J.length + 3 = nI (J.length + 3) from ixA rfl (ixC 3)), rfl, rfl, _, w4⟩
  have h430 : q = 10 ∨ q = 11 → zS l d D b0 mL_begin 0 0 430 [some (.ref c), some (.ref a), some (.int (nI J.length)), some (.int (nI (8388608 * jb))), some (.int (if mf = true then 1 else 0)), some (.int v), some (.int more), some (.int (enE (nI (8388608 * jb)) mf)), some (.int (nI nm)), some (.int (nI J.length)), some (.int 0), none] [] g f (zq D b0 (fun r G F mc ms => r = some (.int (nI (hiS (nI (8388608 * jb)) mf q nm o ++ J).length)) ∧ mc = 0 ∧ ms = 0 ∧ ∃ M', WS b0 n0 c k a M0 g0 f0 M' G F (tx ++ hbS (nI (8388608 * jb)) mf q nm z dg z4 o) (hiS (nI (8388608 * jb)) mf q nm o ++ J))) := fun hc => by
    by_cases hm : mf = true
    · have e2 : hiS (nI (8388608 * jb)) mf q nm o = [itE (nI (8388608 * jb)) mf] := by rcases hc with rfl | rfl <;> exact if_pos hm
      have e1 : hbS (nI (8388608 * jb)) mf q nm z dg z4 o = [64] := by rcases hc with rfl | rfl <;> exact if_pos hm
      rw [e2, e1]
      refine z_iload4 dL_begin_430 ?_
      refine z_if_ne (tgt := 450) dL_begin_432 (by decide) (fun _ => ?_) (fun c432 => absurd c432 (by rw [if_pos hm]; decide))
      show zS _ _ _ _ _ _ _ 450 _ _ _ _ _
      refine z_aload0 dL_begin_450 ?_
      refine z_bipush (v := 64) dL_begin_451 (by decide) ?_
      refine z_callS zmd_L_sign zl_RL_20 zst_L_sign (L_wsign (d := d - 1) h (by omega) (ch := 64) (by omega) (by omega) (by omega)) rfl rfl (by omega) rfl dL_begin_453 (fun r1 g1 f1 mc1 ms1 q1 => ?_)
      obtain ⟨⟨x1, rfl⟩, rfl, rfl, M1, w1⟩ := q1
      refine z_istore10 dL_begin_456 ?_
      refine z_aload1 dL_begin_458 ?_
      refine z_iload9 dL_begin_459 ?_
      refine z_iload7 dL_begin_461 ?_
      refine z_iastE w1.1.2.2.1.1 w1.1.2.2.1.2 rfl (by omega) (by decide) dL_begin_463 ?_
      have w2 := w1.arr (it := itE (nI (8388608 * jb)) mf) (IOK_E hbk)
      refine z_iload9 dL_begin_464 ?_
      refine z_iconst (v := 1) dL_begin_466 (by decide) ?_
      refine z_iadd dL_begin_467 ?_
      refine z_iret dL_begin_468 rfl ?_
      exact ⟨congrArg (fun y => some (Value.int y)) (show nI J.length + 1 = nI (J.length + 1) from ixA rfl (ixC 1)), rfl, rfl, _, w2⟩
    · have e2 : hiS (nI (8388608 * jb)) mf q nm o = [] := by rcases hc with rfl | rfl <;> exact if_neg hm
      have e1 : hbS (nI (8388608 * jb)) mf q nm z dg z4 o = [49, 32] := by rcases hc with rfl | rfl <;> exact if_neg hm
      rw [e2, e1, List.nil_append]
      refine z_iload4 dL_begin_430 ?_
      refine z_if_ne (tgt := 450) dL_begin_432 (by decide) (fun c432 => absurd (if_neg hm) c432) (fun _ => ?_)
      show zS _ _ _ _ _ _ _ 435 _ _ _ _ _
      refine z_aload0 dL_begin_435 ?_
      refine z_bipush (v := 49) dL_begin_436 (by decide) ?_
      refine z_callS zmd_L_sign zl_RL_20 zst_L_sign (L_wsign (d := d - 1) h (by omega) (ch := 49) (by omega) (by omega) (by omega)) rfl rfl (by omega) rfl dL_begin_438 (fun r1 g1 f1 mc1 ms1 q1 => ?_)
      obtain ⟨⟨x1, rfl⟩, rfl, rfl, M1, w1⟩ := q1
      refine z_istore10 dL_begin_441 ?_
      refine z_aload0 dL_begin_443 ?_
      refine z_iload9 dL_begin_444 ?_
      refine z_callS zmd_L_blank zl_RL_39 zst_L_blank (L_wblank (d := d - 1) w1 (by omega) _ (by rw [List.length_append]; show tx.length + 1 < 120; omega)) rfl rfl (by omega) rfl dL_begin_446 (fun r2 g2 f2 mc2 ms2 q2 => ?_)
      obtain ⟨rfl, rfl, rfl, M2, w2⟩ := q2
      rw [List.append_assoc] at w2
      refine z_iret dL_begin_449 rfl ?_
      exact ⟨rfl, rfl, rfl, _, w2⟩
  have h469 : 12 ≤ q → zS l d D b0 mL_begin 0 0 469 [some (.ref c), some (.ref a), some (.int (nI J.length)), some (.int (nI (8388608 * jb))), some (.int (if mf = true then 1 else 0)), some (.int v), some (.int more), some (.int (enE (nI (8388608 * jb)) mf)), some (.int (nI nm)), some (.int (nI J.length)), some (.int 0), none] [] g f (zq D b0 (fun r G F mc ms => r = some (.int (nI (hiS (nI (8388608 * jb)) mf q nm o ++ J).length)) ∧ mc = 0 ∧ ms = 0 ∧ ∃ M', WS b0 n0 c k a M0 g0 f0 M' G F (tx ++ hbS (nI (8388608 * jb)) mf q nm z dg z4 o) (hiS (nI (8388608 * jb)) mf q nm o ++ J))) := fun hc => by
    have n1 : ¬ q < 2 := by omega
    have e2 : hiS (nI (8388608 * jb)) mf q nm o = itE (nI (8388608 * jb)) mf :: clsI o nm (nI (8388608 * jb)) [] := by
      unfold hiS
      rw [if_neg n1, if_neg (show ¬ q < 4 by omega), if_neg (show ¬ q = 4 by omega), if_neg (show ¬ q < 9 by omega), if_neg (show ¬ q = 9 by omega), if_neg (show ¬ q < 12 by omega)]
    have e1 : hbS (nI (8388608 * jb)) mf q nm z dg z4 o = [123] := by
      unfold hbS
      rw [if_neg n1, if_neg (show ¬ q = 2 by omega), if_neg (show ¬ q = 3 by omega), if_neg (show ¬ q = 4 by omega), if_neg (show ¬ q < 7 by omega), if_neg (show ¬ q = 7 by omega), if_neg (show ¬ q = 8 by omega), if_neg (show ¬ q = 9 by omega), if_neg (show ¬ q < 12 by omega)]
    rw [e2, e1]
    refine z_aload0 dL_begin_469 ?_
    refine z_bipush (v := 123) dL_begin_470 (by decide) ?_
    refine z_callS zmd_L_sign zl_RL_20 zst_L_sign (L_wsign (d := d - 1) h (by omega) (ch := 123) (by omega) (by omega) (by omega)) rfl rfl (by omega) rfl dL_begin_472 (fun r1 g1 f1 mc1 ms1 q1 => ?_)
    obtain ⟨⟨x1, rfl⟩, rfl, rfl, M1, w1⟩ := q1
    refine z_istore10 dL_begin_475 ?_
    refine z_aload1 dL_begin_477 ?_
    refine z_iload9 dL_begin_478 ?_
    refine z_bipush (v := 125) dL_begin_480 (by decide) ?_
    refine z_iastE w1.1.2.2.1.1 w1.1.2.2.1.2 rfl (by omega) (by decide) dL_begin_482 ?_
    have w2 := w1.arr (it := itS 125) (IOK_S (by decide) (by decide))
    refine z_aload1 dL_begin_483 ?_
    refine z_iload9 dL_begin_484 ?_
    refine z_iconst (v := 1) dL_begin_486 (by decide) ?_
    refine z_iadd dL_begin_487 ?_
    refine z_iload7 dL_begin_488 ?_
    refine z_ldc dL_begin_490 zk_RL_42 ?_
    refine z_ior dL_begin_492 ?_
    refine z_iconst (v := 1) dL_begin_493 (by decide) ?_
    refine z_bipush (v := 23) dL_begin_494 (by decide) ?_
    refine z_iload8 dL_begin_496 ?_
    refine z_iadd dL_begin_498 ?_
    rw [show (23 : Int32) + nI nm = nI (23 + nm) from ixA (ixC 23) rfl]
    refine z_ishl dL_begin_499 ?_
    refine z_ior dL_begin_500 ?_
    rw [(enE_x jb hjb nm hnm mf).2]
    refine z_iastE w2.1.2.2.1.1 w2.1.2.2.1.2 (ixA rfl (ixC 1)) (by omega) (by decide) dL_begin_501 ?_
    have w3 := w2.arr (it := itE (nI (8388608 * jb) ||| ((1 : Int32) <<< (nI (23 + nm) &&& 31))) true) (IOK_E hbo)
    refine z_aload1 dL_begin_502 ?_
    refine z_iload9 dL_begin_503 ?_
    refine z_iconst (v := 2) dL_begin_505 (by decide) ?_
    refine z_iadd dL_begin_506 ?_
    refine z_bipush (v := 120) dL_begin_507 (by decide) ?_
    refine z_iload8 dL_begin_509 ?_
    refine z_iadd dL_begin_511 ?_
    rw [show (120 : Int32) + nI nm = nI (120 + nm) from ixA (ixC 120) rfl]
    refine z_iastE w3.1.2.2.1.1 w3.1.2.2.1.2 (ixA rfl (ixC 2)) (by omega) (by decide) dL_begin_512 ?_
    have w4 := w3.arr (it := itS (120 + nm)) (IOK_S (by omega) (by omega))
    refine z_aload1 dL_begin_513 ?_
    refine z_iload9 dL_begin_514 ?_
    refine z_iconst (v := 3) dL_begin_516 (by decide) ?_
    refine z_iadd dL_begin_517 ?_
    refine z_bipush (v := 65) dL_begin_518 (by decide) ?_
    refine z_iload6 dL_begin_520 ?_
    refine z_iconst (v := 2) dL_begin_522 (by decide) ?_
    refine z_ishr dL_begin_523 ?_
    refine z_iconst (v := 3) dL_begin_524 (by decide) ?_
    refine z_callSi zmd_L_low zl_RL_35 zst_L_low (L_low _ _ (by decide)) rfl rfl (by omega) rfl dL_begin_525 ?_
    rw [show lw (more >>> ((2 : Int32) &&& 31)) 3 = _ from eo]
    refine z_iadd dL_begin_528 ?_
    rw [show (65 : Int32) + nI o = nI (65 + o) from ixA (ixC 65) rfl]
    refine z_iastE w4.1.2.2.1.1 w4.1.2.2.1.2 (ixA rfl (ixC 3)) (by omega) (by decide) dL_begin_529 ?_
    have w5 := w4.arr (it := itS (65 + o)) (IOK_S (by omega) (by omega))
    refine z_aload1 dL_begin_530 ?_
    refine z_iload9 dL_begin_531 ?_
    refine z_iconst (v := 4) dL_begin_533 (by decide) ?_
    refine z_iadd dL_begin_534 ?_
    refine z_iload7 dL_begin_535 ?_
    refine z_iastE w5.1.2.2.1.1 w5.1.2.2.1.2 (ixA rfl (ixC 4)) (by omega) (by decide) dL_begin_537 ?_
    have w6 := w5.arr (it := itE (nI (8388608 * jb)) mf) (IOK_E hbk)
    refine z_iload9 dL_begin_538 ?_
    refine z_iconst (v := 5) dL_begin_540 (by decide) ?_
    refine z_iadd dL_begin_541 ?_
    refine z_iret dL_begin_542 rfl ?_
    exact ⟨congrArg (fun y => some (Value.int y)) (show nI J.length + 5 = nI (J.length + 5) from ixA rfl (ixC 5)), rfl, rfl, _, w6⟩
  refine zM.start zmd_L_begin (Nat.le_of_ble_eq_true rfl) ⟨rfl, rfl, rfl, rfl, rfl, rfl, rfl, trivial⟩ [some (.ref c), some (.ref a), some (.int (nI J.length)), some (.int (nI (8388608 * jb))), some (.int (if mf = true then 1 else 0)), some (.int v), some (.int more), none, none, none, none, none] rfl ?_
  refine z_ldc dL_begin_0 zk_RL_19 ?_
  refine z_iload4 dL_begin_2 ?_
  refine z_bipush (v := 28) dL_begin_4 (by decide) ?_
  refine z_ishl dL_begin_6 ?_
  refine z_ior dL_begin_7 ?_
  refine z_iload3 dL_begin_8 ?_
  refine z_ior dL_begin_9 ?_
  refine z_istore7 dL_begin_10 ?_
  refine z_iload6 dL_begin_12 ?_
  refine z_iconst (v := 3) dL_begin_14 (by decide) ?_
  refine z_callSi zmd_L_low zl_RL_35 zst_L_low (L_low _ _ (by decide)) rfl rfl (by omega) rfl dL_begin_15 ?_
  rw [show lw more 3 = _ from enm]
  refine z_istore8 dL_begin_18 ?_
  refine z_iload2 dL_begin_20 ?_
  refine z_istore9 dL_begin_21 ?_
  refine z_iconst (v := 0) dL_begin_23 (by decide) ?_
  refine z_istore10 dL_begin_24 ?_
  refine z_iload5 dL_begin_26 ?_
  refine z_bipush (v := 14) dL_begin_28 (by decide) ?_
  refine z_callSi zmd_L_low zl_RL_35 zst_L_low (L_low _ _ (by decide)) rfl rfl (by omega) rfl dL_begin_30 ?_
  rw [show lw v 14 = _ from eq]
  refine z_tab dL_begin_33 (by decide +kernel) (by decide +kernel) ?_
  refine ⟨fun y0 => ?_, fun y0 => ?_⟩
  · have hqi : q = 0 := (nI_eq (b := 0) (by omega) (by decide)).mp y0
    exact h96 (by omega)
  have u0 : ¬ q = 0 := fun y => y0 (by rw [y]; rfl)
  refine ⟨fun y1 => ?_, fun y1 => ?_⟩
  · have hqi : q = 1 := (nI_eq (b := 1) (by omega) (by decide)).mp y1
    exact h96 (by omega)
  have u1 : ¬ q = 1 := fun y => y1 (by rw [y]; rfl)
  refine ⟨fun y2 => ?_, fun y2 => ?_⟩
  · have hqi : q = 2 := (nI_eq (b := 2) (by omega) (by decide)).mp y2
    exact h164 (by omega)
  have u2 : ¬ q = 2 := fun y => y2 (by rw [y]; rfl)
  refine ⟨fun y3 => ?_, fun y3 => ?_⟩
  · have hqi : q = 3 := (nI_eq (b := 3) (by omega) (by decide)).mp y3
    exact h205 (by omega)
  have u3 : ¬ q = 3 := fun y => y3 (by rw [y]; rfl)
  refine ⟨fun y4 => ?_, fun y4 => ?_⟩
  · have hqi : q = 4 := (nI_eq (b := 4) (by omega) (by decide)).mp y4
    exact h246 (by omega)
  have u4 : ¬ q = 4 := fun y => y4 (by rw [y]; rfl)
  refine ⟨fun y5 => ?_, fun y5 => ?_⟩
  · have hqi : q = 5 := (nI_eq (b := 5) (by omega) (by decide)).mp y5
    exact h292 (Or.inl (by omega))
  have u5 : ¬ q = 5 := fun y => y5 (by rw [y]; rfl)
  refine ⟨fun y6 => ?_, fun y6 => ?_⟩
  · have hqi : q = 6 := (nI_eq (b := 6) (by omega) (by decide)).mp y6
    exact h292 (Or.inr (by omega))
  have u6 : ¬ q = 6 := fun y => y6 (by rw [y]; rfl)
  refine ⟨fun y7 => ?_, fun y7 => ?_⟩
  · have hqi : q = 7 := (nI_eq (b := 7) (by omega) (by decide)).mp y7
    exact h342 (by omega)
  have u7 : ¬ q = 7 := fun y => y7 (by rw [y]; rfl)
  refine ⟨fun y8 => ?_, fun y8 => ?_⟩
  · have hqi : q = 8 := (nI_eq (b := 8) (by omega) (by decide)).mp y8
    exact h361 (by omega)
  have u8 : ¬ q = 8 := fun y => y8 (by rw [y]; rfl)
  refine ⟨fun y9 => ?_, fun y9 => ?_⟩
  · have hqi : q = 9 := (nI_eq (b := 9) (by omega) (by decide)).mp y9
    exact h395 (by omega)
  have u9 : ¬ q = 9 := fun y => y9 (by rw [y]; rfl)
  refine ⟨fun y10 => ?_, fun y10 => ?_⟩
  · have hqi : q = 10 := (nI_eq (b := 10) (by omega) (by decide)).mp y10
    exact h430 (Or.inl (by omega))
  have u10 : ¬ q = 10 := fun y => y10 (by rw [y]; rfl)
  refine ⟨fun y11 => ?_, fun y11 => ?_⟩
  · have hqi : q = 11 := (nI_eq (b := 11) (by omega) (by decide)).mp y11
    exact h430 (Or.inr (by omega))
  have u11 : ¬ q = 11 := fun y => y11 (by rw [y]; rfl)
  exact h469 (by omega)
end LBE
