/-! The law's body: a turn. -/
section LTU
variable {l : Launch} {d : Nat} {D : zD} {b0 n0 c c' k k' a T cs ns : Nat} {g G : zG} {f F M N E : zI} {m4 m5 w : Int32} {Q : Nat → Nat → zKT → Prop} {o8 o9 o10 o11 o12 : Option Value}
theorem prun_st {S : Nat} (h5 : M 2 5 = 1) (h1 : 1 ≤ S) (h2 : S ≤ 200) : prun M (nI S) = (prunA S M 2 5, prunA S M) := by
  unfold prun
  rw [if_neg (fun z => z.elim (nI_nlt (b := 1) (by omega) (by omega)) (nI_nlt (a := 200) (by omega) (by omega))), if_pos h5, tn_nI (by omega)]
theorem prun_no (h5 : ¬ M 2 5 = 1) : prun M 1 = (-2, M) := by
  unfold prun
  rw [if_neg (by decide), if_neg h5]
theorem pans_no (h : ¬ M 2 5 = 3) (v : Int32) : panswer M v = (-2, M) := if_neg h
theorem pdrp_no (h : ¬ M 2 5 = 3) (v : Int32) : pdrop M v = (-2, M) := if_neg h
theorem L_turn (hd : 10 ≤ d) (hNs : zsN D ≤ 260) (hG : HG n0 c c' a) (hcc : c + 27 ≤ c') (hT : T < 12) (hI : TI b0 n0 c c' k k' T M w g f) (hk : k ≤ 20 + 40 * T) (hk' : k' ≤ 20 + 40 * T)
    (hend : ∀ (M : zI) (w : Int32) (g : zG) (f : zI) (k2 k2' : Nat) (o8 o9 o10 o11 : Option Value), k2 ≤ 20 + 40 * (T + 1) → k2' ≤ 20 + 40 * (T + 1) → TI b0 n0 c c' k2 k2' (T + 1) M w g f → ∀ o12, zS l d D b0 mL_law (cs + 10400) (ns + 355000) 126 [some (.ref (zsB D)), some (.ref c), some (.ref c'), some (.ref a), some (.int m4), some (.int m5), some (.int w), some (.int (nI (T + 1))), o8, o9, o10, o11, o12] [] g f Q) :
    zS l d D b0 mL_law cs ns 126 [some (.ref (zsB D)), some (.ref c), some (.ref c'), some (.ref a), some (.int m4), some (.int m5), some (.int w), some (.int (nI T)), o8, o9, o10, o11, o12] [] g f Q := by
  have h403 : ∀ (M : zI) (w : Int32) (g : zG) (f : zI) (k2 k2' cs2 ns2 : Nat) (o8 o9 o10 o11 o12 : Option Value), cs2 ≤ cs + 10385 → ns2 ≤ ns + 349000 → k2 ≤ 20 + 40 * T + 37 → k2' ≤ 20 + 40 * T + 40 → TI b0 n0 c c' k2 k2' T M w g f → zS l d D b0 mL_law cs2 ns2 403 [some (.ref (zsB D)), some (.ref c), some (.ref c'), some (.ref a), some (.int m4), some (.int m5), some (.int w), some (.int (nI T)), o8, o9, o10, o11, o12] [] g f Q := fun M w g f k2 k2' cs2 ns2 o8 o9 o10 o11 o12 e1 e2 e3 e4 hI => by
    refine L_403 hd hG hcc hT hI (by omega) (by omega) (fun g f k3 o9 o10 o11 e5 hI => ?_)
    refine z_iinc7 (y := 1) dL_law_481 (by decide) ?_
    refine z_goto (tgt := 126) dL_law_484 (by decide) ?_
    show zS _ _ _ _ _ _ _ 126 _ _ _ _ _
    rw [show nI T + 1 = nI (T + 1) from ixA rfl (ixC 1)]
    exact zS.wide (by omega) (by omega) (hend M w g f k3 k2' _ _ _ _ (by omega) (by omega) hI _)
  obtain ⟨⟨hO, hP, h26⟩, hN, hw, hF⟩ := hI
  obtain ⟨v8, e8⟩ : ∃ v, v = cellv D (45 + T) := ⟨_, rfl⟩
  refine z_iload7 dL_law_126 ?_
  refine z_bipush (v := 12) dL_law_128 (by decide) ?_
  refine z_icmp_ge (tgt := 487) dL_law_130 (by decide) (fun c130 => absurd (nI_lt (show T < 12 by omega) (by decide)) c130) (fun _ => ?_)
  show zS _ _ _ _ _ _ _ 133 _ _ _ _ _
  refine z_aload0 dL_law_133 ?_
  refine z_bipush (v := 45) dL_law_134 (by decide) ?_
  refine z_iload7 dL_law_136 ?_
  refine z_iadd dL_law_138 ?_
  rw [show (45 : Int32) + nI T = nI (45 + T) from ixA (ixC 45) rfl]
  refine z_callSi zmd_L_cell zl_RL_26 zst_L_cell (L_cell (d := d - 1) (45 + T) (by omega) hNs) rfl rfl (by omega) rfl dL_law_139 ?_
  rw [← e8]
  refine z_istore8 dL_law_142 ?_
  refine z_aload1 dL_law_144 ?_
  refine z_iconst (v := 0) dL_law_145 (by decide) ?_
  refine z_callVi zmd_X11_told rfl (by decide) zl_RL_49 zin_X11_told zsel_X11_told (O_told (d := d - 1) hO (by omega) 0) hO.inn rfl rfl (by omega) rfl dL_law_146 ?_
  by_cases q1 : ptold M 0 = 1
  · have h5 : M 2 5 = 1 := q1
    obtain ⟨q, hq, eq⟩ : ∃ q, q < 30 ∧ lw v8 30 = nI q := lw_lt v8 (n := 30) (by decide) (by decide)
    obtain ⟨E, eE⟩ : ∃ E, E = prunA (1 + q) M := ⟨_, rfl⟩
    have ep : prun M (nI (1 + q)) = (E 2 5, E) := by rw [eE]; exact prun_st h5 (by omega) (by omega)
    refine z_iconst (v := 1) dL_law_149 (by decide) ?_
    refine z_icmp_ne (tgt := 250) dL_law_150 (by decide) (fun c150 => absurd q1 c150) (fun _ => ?_)
    show zS _ _ _ _ _ _ _ 153 _ _ _ _ _
    refine z_iconst (v := 1) dL_law_153 (by decide) ?_
    refine z_iload8 dL_law_154 ?_
    refine z_bipush (v := 30) dL_law_156 (by decide) ?_
    refine z_callSi zmd_L_low zl_RL_35 zst_L_low (L_low v8 30 (by decide)) rfl rfl (by omega) rfl dL_law_158 ?_
    rw [eq]
    refine z_iadd dL_law_161 ?_
    rw [show (1 : Int32) + nI q = nI (1 + q) from ixA (ixC 1) rfl]
    refine z_istore9 dL_law_162 ?_
    refine z_aload2 dL_law_164 ?_
    refine z_iload9 dL_law_165 ?_
    refine z_callV zmd_X11_run rfl (by decide) zl_RL_87 zin_X11_run zsel_X11_run (O_run (d := d - 1) hP (by omega) (by omega) (nI (1 + q))) hP.inn rfl rfl (by omega) rfl dL_law_167 (fun r1 g1 f1 mc1 ms1 q2 => ?_)
    obtain ⟨rfl, hc1, hs1, h1, K1⟩ := q2
    rw [ep] at h1 ⊢
    have hO1 := hO.oth (by omega) hG.sw h1 K1
    have e26 : g1.2.2.2 (c + 26) = g.2.2.2 (c + 26) := K1.r26 hO hG
    refine z_istore10 dL_law_170 ?_
    refine z_iconst (v := 0) dL_law_172 (by decide) ?_
    refine z_istore11 dL_law_173 ?_
    refine L_inner (S := 1 + q) (k0 := k) (k' := k' + 1) (E := E) (cs0 := cs + mc1) (ns0 := ns + ms1) (r26 := g.2.2.2 (c + 26)) hd hG (by omega) (by omega) (by omega) (fun g2 f2 k2 j2 o12 ek hO2 hP2 h262 hN2 hF2 => ?_) (1 + q) 0 M g1 f1 k o12 (Nat.zero_add _) eE.symm hO1 h1 e26 hN hF (by omega)
    refine z_aload1 dL_law_223 ?_
    refine z_iconst (v := 0) dL_law_224 (by decide) ?_
    refine z_callVi zmd_X11_told rfl (by decide) zl_RL_49 zin_X11_told zsel_X11_told (O_told (d := d - 1) hO2 (by omega) 0) hO2.inn rfl rfl (by omega) rfl dL_law_225 ?_
    refine z_iload10 dL_law_228 ?_
    refine z_icmp_ne (tgt := 245) dL_law_230 (by decide) (fun c230 => absurd rfl c230) (fun _ => ?_)
    show zS _ _ _ _ _ _ _ 233 _ _ _ _ _
    by_cases qw : w = 0
    · have hw2 : ¬ E 2 5 = 3 ∨ ∃ v, v < 4 ∧ (pmay E (-1) (E 2 15) (nI v)).1 = 1 := by
        by_cases q3 : E 2 5 = 3
        · exact Or.inr (hO2.foretold (by omega) hN2.1 (hF2 qw) q3)
        · exact Or.inl q3
      refine z_iload6 dL_law_233 ?_
      refine z_if_ne (tgt := 247) dL_law_235 (by decide) (fun c235 => absurd qw c235) (fun _ => ?_)
      show zS _ _ _ _ _ _ _ 238 _ _ _ _ _
      refine z_aload1 dL_law_238 ?_
      refine z_callS zmd_L_wasTold zl_RL_94 zst_L_wasTold (L_wasTold (d := d - 1) hO2 (by omega) (by omega) hw2) rfl rfl (by omega) rfl dL_law_239 (fun r3 g3 f3 mc3 ms3 q3 => ?_)
      obtain ⟨rfl, rfl, rfl, ⟨j3, hj3, h3⟩, K3⟩ := q3
      have hP3 := hP2.oth (by omega) hG h3 K3
      refine z_if_ne (tgt := 247) dL_law_242 (by decide) (fun _ => ?_) (fun c242 => absurd c242 (by decide))
      show zS _ _ _ _ _ _ _ 247 _ _ _ _ _
      refine z_goto (tgt := 403) dL_law_247 (by decide) ?_
      show zS _ _ _ _ _ _ _ 403 _ _ _ _ _
      exact h403 E w g3 f3 (k2 + j3) (k' + 1) _ _ _ _ _ _ _ (by omega) (by omega) (by omega) (by omega) ⟨⟨h3, hP3, fun z => by rw [K3.2.2, h262]; exact h26 z⟩, hN2, hw, hF2⟩
    · skip
      refine z_iload6 dL_law_233 ?_
      refine z_if_ne (tgt := 247) dL_law_235 (by decide) (fun _ => ?_) (fun c235 => absurd c235 qw)
      show zS _ _ _ _ _ _ _ 247 _ _ _ _ _
      refine z_goto (tgt := 403) dL_law_247 (by decide) ?_
      show zS _ _ _ _ _ _ _ 403 _ _ _ _ _
      exact h403 E w g2 f2 k2 (k' + 1) _ _ _ _ _ _ _ (by omega) (by omega) (by omega) (by omega) ⟨⟨hO2, hP2, fun z => by rw [h262]; exact h26 z⟩, hN2, hw, hF2⟩
  · have n5 : ¬ M 2 5 = 1 := q1
    by_cases q3 : ptold M 0 = 3
    · have h3 : M 2 5 = 3 := q3
      obtain ⟨vv, evv⟩ : ∃ vv, vv = lw (v8 >>> ((3 : Int32) &&& 31)) 9 := ⟨_, rfl⟩
      refine z_iconst (v := 1) dL_law_149 (by decide) ?_
      refine z_icmp_ne (tgt := 250) dL_law_150 (by decide) (fun _ => ?_) (fun c150 => absurd c150 q1)
      show zS _ _ _ _ _ _ _ 250 _ _ _ _ _
      refine z_aload1 dL_law_250 ?_
      refine z_iconst (v := 0) dL_law_251 (by decide) ?_
      refine z_callVi zmd_X11_told rfl (by decide) zl_RL_49 zin_X11_told zsel_X11_told (O_told (d := d - 1) hO (by omega) 0) hO.inn rfl rfl (by omega) rfl dL_law_252 ?_
      refine z_iconst (v := 3) dL_law_255 (by decide) ?_
      refine z_icmp_ne (tgt := 371) dL_law_256 (by decide) (fun c256 => absurd q3 c256) (fun _ => ?_)
      show zS _ _ _ _ _ _ _ 259 _ _ _ _ _
      refine z_iload8 dL_law_259 ?_
      refine z_iconst (v := 3) dL_law_261 (by decide) ?_
      refine z_ishr dL_law_262 ?_
      refine z_bipush (v := 9) dL_law_263 (by decide) ?_
      refine z_callSi zmd_L_low zl_RL_35 zst_L_low (L_low (v8 >>> ((3 : Int32) &&& 31)) 9 (by decide)) rfl rfl (by omega) rfl dL_law_265 ?_
      rw [← evv]
      refine z_istore9 dL_law_268 ?_
      refine z_iload8 dL_law_270 ?_
      refine z_iconst (v := 3) dL_law_272 (by decide) ?_
      refine z_callSi zmd_L_low zl_RL_35 zst_L_low (L_low v8 3 (by decide)) rfl rfl (by omega) rfl dL_law_273 ?_
      by_cases qd : lw v8 3 = 0
      · have hend2 : zS l d D b0 mL_law cs ns 303 [some (.ref (zsB D)), some (.ref c), some (.ref c'), some (.ref a), some (.int m4), some (.int m5), some (.int 1), some (.int (nI T)), some (.int v8), some (.int vv), some (.int 1), o11, o12] [] g f Q := by
          obtain ⟨hN2, hp1⟩ := hO.drpI hN vv
          refine z_iload10 dL_law_303 ?_
          refine z_if_eq (tgt := 326) dL_law_305 (by decide) (fun c305 => absurd c305 (by decide)) (fun _ => ?_)
          show zS _ _ _ _ _ _ _ 308 _ _ _ _ _
          refine z_aload1 dL_law_308 ?_
          refine z_iload9 dL_law_309 ?_
          refine z_callV zmd_X11_drop rfl (by decide) zl_RL_97 zin_X11_drop zsel_X11_drop (O_drop (d := d - 1) hO (by omega) (by omega) vv) hO.inn rfl rfl (by omega) rfl dL_law_311 (fun r1 g1 f1 mc1 ms1 q1 => ?_)
          obtain ⟨rfl, hc1, hs1, h1, K1⟩ := q1
          have hP1 := hP.oth (by omega) hG h1 K1
          refine z_aload2 dL_law_314 ?_
          refine z_iload9 dL_law_315 ?_
          refine z_callV zmd_X11_drop rfl (by decide) zl_RL_97 zin_X11_drop zsel_X11_drop (O_drop (d := d - 1) hP1 (by omega) (by omega) vv) hP1.inn rfl rfl (by omega) rfl dL_law_317 (fun r2 g2 f2 mc2 ms2 q2 => ?_)
          obtain ⟨rfl, hc2, hs2, h2, K2⟩ := q2
          have hO2 := h1.oth (by omega) hG.sw h2 K2
          refine z_icmp_eq (tgt := 343) dL_law_320 (by decide) (fun _ => ?_) (fun c320 => absurd rfl c320)
          show zS _ _ _ _ _ _ _ 343 _ _ _ _ _
          refine z_iload10 dL_law_343 ?_
          refine z_if_eq (tgt := 368) dL_law_345 (by decide) (fun c345 => absurd c345 (by decide)) (fun _ => ?_)
          show zS _ _ _ _ _ _ _ 348 _ _ _ _ _
          refine z_aload1 dL_law_348 ?_
          refine z_iconst (v := 2) dL_law_349 (by decide) ?_
          refine z_callVi zmd_X11_told rfl (by decide) zl_RL_49 zin_X11_told zsel_X11_told (O_told (d := d - 1) hO2 (by omega) 2) hO2.inn rfl rfl (by omega) rfl dL_law_350 ?_
          refine z_iconst (v := 1) dL_law_353 (by decide) ?_
          refine z_icmp_eq (tgt := 368) dL_law_354 (by decide) (fun _ => ?_) (fun c354 => absurd (hp1 h3) c354)
          show zS _ _ _ _ _ _ _ 368 _ _ _ _ _
          refine z_goto (tgt := 403) dL_law_368 (by decide) ?_
          show zS _ _ _ _ _ _ _ 403 _ _ _ _ _
          exact h403 _ 1 g2 f2 (k + 1) (k' + 1) _ _ _ _ _ _ _ (by omega) (by omega) (by omega) (by omega) ⟨⟨hO2, h2, fun z => by rw [K2.r26 h1 hG, K1.2.2]; exact h26 z⟩, hN2, Or.inr rfl, fun z => absurd z (by decide)⟩
        refine z_if_ne (tgt := 283) dL_law_276 (by decide) (fun c276 => absurd qd c276) (fun _ => ?_)
        show zS _ _ _ _ _ _ _ 279 _ _ _ _ _
        refine z_iconst (v := 1) dL_law_279 (by decide) ?_
        refine z_goto (tgt := 284) dL_law_280 (by decide) ?_
        show zS _ _ _ _ _ _ _ 284 _ _ _ _ _
        refine z_istore10 dL_law_284 ?_
        refine z_iload6 dL_law_286 ?_
        by_cases qw : w = 0
        · skip
          refine z_if_ne (tgt := 296) dL_law_288 (by decide) (fun c288 => absurd qw c288) (fun _ => ?_)
          show zS _ _ _ _ _ _ _ 291 _ _ _ _ _
          refine z_iload10 dL_law_291 ?_
          refine z_if_eq (tgt := 300) dL_law_293 (by decide) (fun c293 => absurd c293 (by decide)) (fun _ => ?_)
          show zS _ _ _ _ _ _ _ 296 _ _ _ _ _
          refine z_iconst (v := 1) dL_law_296 (by decide) ?_
          refine z_goto (tgt := 301) dL_law_297 (by decide) ?_
          show zS _ _ _ _ _ _ _ 301 _ _ _ _ _
          refine z_istore6 dL_law_301 ?_
          exact hend2
        · skip
          refine z_if_ne (tgt := 296) dL_law_288 (by decide) (fun _ => ?_) (fun c288 => absurd c288 qw)
          show zS _ _ _ _ _ _ _ 296 _ _ _ _ _
          refine z_iconst (v := 1) dL_law_296 (by decide) ?_
          refine z_goto (tgt := 301) dL_law_297 (by decide) ?_
          show zS _ _ _ _ _ _ _ 301 _ _ _ _ _
          refine z_istore6 dL_law_301 ?_
          exact hend2
      · have hend2 : zS l d D b0 mL_law cs ns 303 [some (.ref (zsB D)), some (.ref c), some (.ref c'), some (.ref a), some (.int m4), some (.int m5), some (.int w), some (.int (nI T)), some (.int v8), some (.int vv), some (.int 0), o11, o12] [] g f Q := by
          obtain ⟨hN2, hF2⟩ := hO.ansI hN vv
          refine z_iload10 dL_law_303 ?_
          refine z_if_eq (tgt := 326) dL_law_305 (by decide) (fun _ => ?_) (fun c305 => absurd rfl c305)
          show zS _ _ _ _ _ _ _ 326 _ _ _ _ _
          refine z_aload1 dL_law_326 ?_
          refine z_iload9 dL_law_327 ?_
          refine z_callV zmd_X11_answer rfl (by decide) zl_RL_100 zin_X11_answer zsel_X11_answer (O_answer (d := d - 1) hO (by omega) (by omega) vv) hO.inn rfl rfl (by omega) rfl dL_law_329 (fun r1 g1 f1 mc1 ms1 q1 => ?_)
          obtain ⟨rfl, hc1, hs1, h1, K1⟩ := q1
          have hP1 := hP.oth (by omega) hG h1 K1
          refine z_aload2 dL_law_332 ?_
          refine z_iload9 dL_law_333 ?_
          refine z_callV zmd_X11_answer rfl (by decide) zl_RL_100 zin_X11_answer zsel_X11_answer (O_answer (d := d - 1) hP1 (by omega) (by omega) vv) hP1.inn rfl rfl (by omega) rfl dL_law_335 (fun r2 g2 f2 mc2 ms2 q2 => ?_)
          obtain ⟨rfl, hc2, hs2, h2, K2⟩ := q2
          have hO2 := h1.oth (by omega) hG.sw h2 K2
          refine z_icmp_eq (tgt := 343) dL_law_338 (by decide) (fun _ => ?_) (fun c338 => absurd rfl c338)
          show zS _ _ _ _ _ _ _ 343 _ _ _ _ _
          refine z_iload10 dL_law_343 ?_
          refine z_if_eq (tgt := 368) dL_law_345 (by decide) (fun _ => ?_) (fun c345 => absurd rfl c345)
          show zS _ _ _ _ _ _ _ 368 _ _ _ _ _
          refine z_goto (tgt := 403) dL_law_368 (by decide) ?_
          show zS _ _ _ _ _ _ _ 403 _ _ _ _ _
          exact h403 _ w g2 f2 (k + 1) (k' + 1) _ _ _ _ _ _ _ (by omega) (by omega) (by omega) (by omega) ⟨⟨hO2, h2, fun z => by rw [K2.r26 h1 hG, K1.2.2]; exact h26 z⟩, hN2, hw, fun z => hF2 (hF z)⟩
        refine z_if_ne (tgt := 283) dL_law_276 (by decide) (fun _ => ?_) (fun c276 => absurd c276 qd)
        show zS _ _ _ _ _ _ _ 283 _ _ _ _ _
        refine z_iconst (v := 0) dL_law_283 (by decide) ?_
        refine z_istore10 dL_law_284 ?_
        refine z_iload6 dL_law_286 ?_
        rcases hw with rfl | rfl
        · skip
          refine z_if_ne (tgt := 296) dL_law_288 (by decide) (fun c288 => absurd rfl c288) (fun _ => ?_)
          show zS _ _ _ _ _ _ _ 291 _ _ _ _ _
          refine z_iload10 dL_law_291 ?_
          refine z_if_eq (tgt := 300) dL_law_293 (by decide) (fun _ => ?_) (fun c293 => absurd rfl c293)
          show zS _ _ _ _ _ _ _ 300 _ _ _ _ _
          refine z_iconst (v := 0) dL_law_300 (by decide) ?_
          refine z_istore6 dL_law_301 ?_
          exact hend2
        · skip
          refine z_if_ne (tgt := 296) dL_law_288 (by decide) (fun _ => ?_) (fun c288 => absurd c288 (by decide))
          show zS _ _ _ _ _ _ _ 296 _ _ _ _ _
          refine z_iconst (v := 1) dL_law_296 (by decide) ?_
          refine z_goto (tgt := 301) dL_law_297 (by decide) ?_
          show zS _ _ _ _ _ _ _ 301 _ _ _ _ _
          refine z_istore6 dL_law_301 ?_
          exact hend2
    · have n3 : ¬ M 2 5 = 3 := q3
      have e1 := prun_no n5
      have e2 := pans_no n3 1
      have e3 := pdrp_no n3 1
      refine z_iconst (v := 1) dL_law_149 (by decide) ?_
      refine z_icmp_ne (tgt := 250) dL_law_150 (by decide) (fun _ => ?_) (fun c150 => absurd c150 q1)
      show zS _ _ _ _ _ _ _ 250 _ _ _ _ _
      refine z_aload1 dL_law_250 ?_
      refine z_iconst (v := 0) dL_law_251 (by decide) ?_
      refine z_callVi zmd_X11_told rfl (by decide) zl_RL_49 zin_X11_told zsel_X11_told (O_told (d := d - 1) hO (by omega) 0) hO.inn rfl rfl (by omega) rfl dL_law_252 ?_
      refine z_iconst (v := 3) dL_law_255 (by decide) ?_
      refine z_icmp_ne (tgt := 371) dL_law_256 (by decide) (fun _ => ?_) (fun c256 => absurd c256 q3)
      show zS _ _ _ _ _ _ _ 371 _ _ _ _ _
      refine z_aload1 dL_law_371 ?_
      refine z_iconst (v := 1) dL_law_372 (by decide) ?_
      refine z_callV zmd_X11_run rfl (by decide) zl_RL_87 zin_X11_run zsel_X11_run (O_run (d := d - 1) hO (by omega) (by omega) 1) hO.inn rfl rfl (by omega) rfl dL_law_373 (fun r4 g4 f4 mc4 ms4 q4 => ?_)
      obtain ⟨rfl, hc4, hs4, h4, K4⟩ := q4
      rw [e1] at h4 ⊢
      have hP4 := hP.oth (by omega) hG h4 K4
      refine z_bipush (v := (-2)) dL_law_376 (by decide) ?_
      refine z_icmp_ne (tgt := 401) dL_law_378 (by decide) (fun c378 => absurd rfl c378) (fun _ => ?_)
      show zS _ _ _ _ _ _ _ 381 _ _ _ _ _
      refine z_aload1 dL_law_381 ?_
      refine z_iconst (v := 1) dL_law_382 (by decide) ?_
      refine z_callV zmd_X11_answer rfl (by decide) zl_RL_100 zin_X11_answer zsel_X11_answer (O_answer (d := d - 1) h4 (by omega) (by omega) 1) h4.inn rfl rfl (by omega) rfl dL_law_383 (fun r5 g5 f5 mc5 ms5 q5 => ?_)
      obtain ⟨rfl, hc5, hs5, h5, K5⟩ := q5
      rw [e2] at h5 ⊢
      have hP5 := hP4.oth (by omega) hG h5 K5
      refine z_bipush (v := (-2)) dL_law_386 (by decide) ?_
      refine z_icmp_ne (tgt := 401) dL_law_388 (by decide) (fun c388 => absurd rfl c388) (fun _ => ?_)
      show zS _ _ _ _ _ _ _ 391 _ _ _ _ _
      refine z_aload1 dL_law_391 ?_
      refine z_iconst (v := 1) dL_law_392 (by decide) ?_
      refine z_callV zmd_X11_drop rfl (by decide) zl_RL_97 zin_X11_drop zsel_X11_drop (O_drop (d := d - 1) h5 (by omega) (by omega) 1) h5.inn rfl rfl (by omega) rfl dL_law_393 (fun r6 g6 f6 mc6 ms6 q6 => ?_)
      obtain ⟨rfl, hc6, hs6, h6, K6⟩ := q6
      rw [e3] at h6 ⊢
      have hP6 := hP5.oth (by omega) hG h6 K6
      refine z_bipush (v := (-2)) dL_law_396 (by decide) ?_
      refine z_icmp_eq (tgt := 403) dL_law_398 (by decide) (fun _ => ?_) (fun c398 => absurd rfl c398)
      show zS _ _ _ _ _ _ _ 403 _ _ _ _ _
      exact h403 _ w g6 f6 (k + 1 + 1 + 1) k' _ _ _ _ _ _ _ (by omega) (by omega) (by omega) (by omega) ⟨⟨h6, hP6, fun z => by rw [K6.2.2, K5.2.2, K4.2.2]; exact h26 z⟩, hN, hw, hF⟩
end LTU
