/-! The law's body: all turns; the beginning. -/
section LST2
variable {l : Launch} {d : Nat} {D : zD} {b0 n0 c c' k k' a T : Nat} {g G : zG} {f F M N E : zI} {m4 m5 w : Int32}
/-- what holds at the law's end -/
def LQ : zP := fun r _ _ mc ms => r = some (.int 1) ∧ mc ≤ 130000 ∧ ms ≤ 4330000
theorem L_loop (hd : 10 ≤ d) (hNs : zsN D ≤ 260) (hG : HG n0 c c' a) (hcc : c + 27 ≤ c') : ∀ (n T : Nat) (M : zI) (w : Int32) (g : zG) (f : zI) (k k' : Nat) (o8 o9 o10 o11 o12 : Option Value), T + n = 12 → TI b0 n0 c c' k k' T M w g f → k ≤ 20 + 40 * T → k' ≤ 20 + 40 * T → zS l d D b0 mL_law (5000 + 10400 * T) (60000 + 355000 * T) 126 [some (.ref (zsB D)), some (.ref c), some (.ref c'), some (.ref a), some (.int m4), some (.int m5), some (.int w), some (.int (nI T)), o8, o9, o10, o11, o12] [] g f (zq D b0 LQ) := by
  intro n
  induction n with
  | zero =>
    intro T M w g f k k' o8 o9 o10 o11 o12 hT hI hk hk'
    obtain rfl : T = 12 := by omega
    obtain ⟨⟨hO, hP, h26⟩, hN, hw, hF⟩ := hI
    refine z_iload7 dL_law_126 ?_
    refine z_bipush (v := 12) dL_law_128 (by decide) ?_
    refine z_icmp_ge (tgt := 487) dL_law_130 (by decide) (fun _ => ?_) (fun c130 => absurd c130 (by decide))
    show zS _ _ _ _ _ _ _ 487 _ _ _ _ _
    refine z_aload1 dL_law_487 ?_
    refine z_iconst (v := 1) dL_law_488 (by decide) ?_
    refine z_callVi zmd_X11_back rfl (by decide) zl_RL_113 zin_X11_back zsel_X11_back (O_back1 (d := d - 1) hO (by omega)) hO.inn rfl rfl (by omega) rfl dL_law_489 ?_
    refine z_bipush (v := (-2)) dL_law_492 (by decide) ?_
    refine z_icmp_ne (tgt := 510) dL_law_494 (by decide) (fun c494 => absurd rfl c494) (fun _ => ?_)
    show zS _ _ _ _ _ _ _ 497 _ _ _ _ _
    refine z_aload1 dL_law_497 ?_
    refine z_iconst (v := 2) dL_law_498 (by decide) ?_
    refine z_callV zmd_X11_keep rfl (by decide) zl_RL_107 zin_X11_keep zsel_X11_keep (O_keep2 (d := d - 1) hO (by omega)) hO.inn rfl rfl (by omega) rfl dL_law_499 (fun r1 g1 f1 mc1 ms1 q1 => ?_)
    obtain ⟨rfl, rfl, rfl, hc1, hs1⟩ := q1
    refine z_iconst (v := (-1)) dL_law_502 (by decide) ?_
    refine z_icmp_ne (tgt := 510) dL_law_503 (by decide) (fun c503 => absurd rfl c503) (fun _ => ?_)
    show zS _ _ _ _ _ _ _ 506 _ _ _ _ _
    refine z_iconst (v := 1) dL_law_506 (by decide) ?_
    refine z_goto (tgt := 511) dL_law_507 (by decide) ?_
    show zS _ _ _ _ _ _ _ 511 _ _ _ _ _
    refine z_iret dL_law_511 rfl ?_
    exact ⟨rfl, by omega, by omega⟩
  | succ n ih =>
    intro T M w g f k k' o8 o9 o10 o11 o12 hT hI hk hk'
    exact L_turn hd hNs hG hcc (by omega) hI hk hk' (fun M w g f k2 k2' o8 o9 o10 o11 e1 e2 hI o12 => zS.wide (by omega) (by omega) (ih (T + 1) M w g f k2 k2' o8 o9 o10 o11 o12 (by omega) hI e1 e2))
theorem LABM.ini : LABM pinit := ⟨fun _ => 0, 0, pi_r (by decide), by decide, fun n h => absurd h (Nat.not_lt_zero n), fun k hk => Or.inl (pi_lo hk)⟩
theorem Z01.ini : Z01 pinit := fun q _ => Or.inl (pi_h _ (by omega))
theorem P_26 {b0 : Nat} : (PA3 b0).1.2.2.2 (b0 + 26) 0 = none := by
  have h1 : (uN (g00 b0, f00) 11 0).1.1 = b0 + 1 := rfl
  have h2 : (uN (PA1 b0) 11 0).1.1 = b0 + 27 + 1 := by show (PA1 b0).1.1 + 1 = _; rw [PA1_z]
  have e3 : (PA3 b0).1.2.2.2 (b0 + 26) = (PA2 b0).1.2.2.2 (b0 + 26) := zu1_ne _ _ _ (by have := PA2_z b0; omega)
  have e2 : (PA2 b0).1.2.2.2 (b0 + 26) = (PA1 b0).1.2.2.2 (b0 + 26) := by
    obtain ⟨a1, -⟩ := ob_old (S := uN (PA1 b0) 11 0) (a := b0 + 27) (y := b0 + 26) h2 (by omega)
    exact a1.trans (zu1_ne _ _ _ (by rw [PA1_z]; omega))
  rw [e3, e2]
  exact ob_n26 h1
theorem prun_0 : prun M 0 = (-1, M) := if_pos (Or.inl (by decide))
theorem L_w45 (hd : 10 ≤ d) (hNs : zsN D ≤ 260) (hG : HG n0 c c' a) (hcc : c + 27 ≤ c') (h4 : OB b0 n0 c 4 M g f) (p4 : OB b0 n0 c' 2 M g f) (A4 : ARR b0 g a) (L4 : LABM M) (Z4 : Z01 M) (e04 : M 0 4 = 0) (e26 : g.2.2.2 (c + 26) 0 = none) {o4 o5 o6 o7 : Option Value} : zS l d D b0 mL_law 2400 32000 45 [some (.ref (zsB D)), some (.ref c), some (.ref c'), some (.ref a), o4, o5, o6, o7, none, none, none, none, none] [] g f (zq D b0 LQ) := by
  refine z_aload1 dL_law_45 ?_
  refine z_aload0 dL_law_46 ?_
  refine z_iconst (v := 0) dL_law_47 (by decide) ?_
  refine z_aload3 dL_law_48 ?_
  refine z_iconst (v := 0) dL_law_49 (by decide) ?_
  refine z_callS zmd_L_writeOne zl_RL_69 zst_L_writeOne (L_writeOne (d := d - 1) (fr := 0) (v0 := 0) h4 (by omega) A4 hG.2.1 hG.2.2.1 (by omega) hNs (by omega) (Or.inl rfl)) rfl rfl (by omega) rfl dL_law_50 (fun r5 g5 f5 mc5 ms5 q5 => ?_)
  obtain ⟨rfl, rfl, rfl, M5, h5, A5, t5, w5, K5⟩ := q5
  have p5 := p4.othW (by omega) hG h5 K5
  refine z_istore4 dL_law_53 ?_
  refine z_aload2 dL_law_55 ?_
  refine z_aload0 dL_law_56 ?_
  refine z_iconst (v := 0) dL_law_57 (by decide) ?_
  refine z_aload3 dL_law_58 ?_
  refine z_iconst (v := 0) dL_law_59 (by decide) ?_
  refine z_callS zmd_L_writeOne zl_RL_69 zst_L_writeOne (L_writeOne (d := d - 1) (fr := 0) (v0 := 0) p5 (by omega) A5 hG.2.1 hG.2.2.2 (by omega) hNs (by omega) (Or.inl rfl)) rfl rfl (by omega) rfl dL_law_60 (fun r6 g6 f6 mc6 ms6 q6 => ?_)
  obtain ⟨rfl, rfl, rfl, M6, h6, A6, t6, w6, K6⟩ := q6
  obtain ⟨o6, p6⟩ := two_w hG p4 (by omega) h5 (by omega) t5 w5 K5 h6 t6 w6 K6
  have L5 : LABM M5 := L4.of (w5.1 1 (by decide) (by decide)) (w5.2 1 (by decide)) (fun k _ => congrFun (w5.1 2 (by decide) (by decide)) k)
  have Z5 : Z01 M5 := Z4.of (fun q _ => congrFun (w5.1 2 (by decide) (by decide)) _)
  have fa : (pfault M5 0).1 = -9 := pfault_w (hW_HDs D 0) (Or.inl rfl) rfl t5 o6 (by omega) L5
  obtain ⟨d1, d2, d3, d4, d5, d6⟩ := pload_w (hW_HDs D 0) t5 o6 (by omega) L5 Z5
  generalize wrT (hiW D 0) 71 [itE 0 false] 0 = mm at d1 ⊢
  obtain ⟨P, eP⟩ : ∃ P, P = (pload M5).2 := ⟨_, rfl⟩
  rw [← eP] at d2 d3 d4 d5 d6
  refine z_istore5 dL_law_63 ?_
  refine z_iload4 dL_law_65 ?_
  refine z_iload5 dL_law_67 ?_
  refine z_icmp_ne (tgt := 118) dL_law_69 (by decide) (fun c69 => absurd rfl c69) (fun _ => ?_)
  show zS _ _ _ _ _ _ _ 72 _ _ _ _ _
  refine z_aload1 dL_law_72 ?_
  refine z_iconst (v := 0) dL_law_73 (by decide) ?_
  refine z_callV zmd_X11_fault rfl (by decide) zl_RL_73 zin_X11_fault zsel_X11_fault (O_fault (d := d - 1) o6 (by omega) (by omega) 0) o6.inn rfl rfl (by omega) rfl dL_law_74 (fun r7 g7 f7 mc7 ms7 q7 => ?_)
  obtain ⟨rfl, hc7, hs7, h7, K7⟩ := q7
  have p7 := p6.oth (by omega) hG h7 K7
  rw [fa]
  refine z_bipush (v := (-9)) dL_law_77 (by decide) ?_
  refine z_icmp_ne (tgt := 118) dL_law_79 (by decide) (fun c79 => absurd rfl c79) (fun _ => ?_)
  show zS _ _ _ _ _ _ _ 82 _ _ _ _ _
  refine z_aload1 dL_law_82 ?_
  refine z_callV zmd_X11_load rfl (by decide) zl_RL_84 zin_X11_load zsel_X11_load (O_load (d := d - 1) h7 (by omega) (by omega)) h7.inn rfl rfl (by omega) rfl dL_law_83 (fun r8 g8 f8 mc8 ms8 q8 => ?_)
  obtain ⟨rfl, hc8, hs8, h8, K8⟩ := q8
  rw [← eP] at h8
  have p8 := p7.oth (by omega) hG h8 K8
  rw [d1]
  refine z_iload4 dL_law_86 ?_
  refine z_icmp_ne (tgt := 118) dL_law_88 (by decide) (fun c88 => absurd rfl c88) (fun _ => ?_)
  show zS _ _ _ _ _ _ _ 91 _ _ _ _ _
  refine z_aload2 dL_law_91 ?_
  refine z_callV zmd_X11_load rfl (by decide) zl_RL_84 zin_X11_load zsel_X11_load (O_load (d := d - 1) p8 (by omega) (by omega)) p8.inn rfl rfl (by omega) rfl dL_law_92 (fun r9 g9 f9 mc9 ms9 q9 => ?_)
  obtain ⟨rfl, hc9, hs9, p9, K9⟩ := q9
  rw [← eP] at p9
  have h9 := h8.oth (by omega) hG.sw p9 K9
  rw [d1]
  refine z_iload4 dL_law_95 ?_
  refine z_icmp_ne (tgt := 118) dL_law_97 (by decide) (fun c97 => absurd rfl c97) (fun _ => ?_)
  show zS _ _ _ _ _ _ _ 100 _ _ _ _ _
  refine z_aload1 dL_law_100 ?_
  refine z_iconst (v := 0) dL_law_101 (by decide) ?_
  refine z_callVi zmd_X11_told rfl (by decide) zl_RL_49 zin_X11_told zsel_X11_told (O_told (d := d - 1) h9 (by omega) 0) h9.inn rfl rfl (by omega) rfl dL_law_102 ?_
  refine z_iconst (v := 1) dL_law_105 (by decide) ?_
  refine z_icmp_ne (tgt := 118) dL_law_106 (by decide) (fun c106 => absurd d5 c106) (fun _ => ?_)
  show zS _ _ _ _ _ _ _ 109 _ _ _ _ _
  refine z_aload1 dL_law_109 ?_
  refine z_iconst (v := 0) dL_law_110 (by decide) ?_
  refine z_callV zmd_X11_run rfl (by decide) zl_RL_87 zin_X11_run zsel_X11_run (O_run (d := d - 1) h9 (by omega) (by omega) 0) h9.inn rfl rfl (by omega) rfl dL_law_111 (fun r10 g10 f10 mc10 ms10 q10 => ?_)
  obtain ⟨rfl, hc10, hs10, h10, K10⟩ := q10
  rw [prun_0] at h10 ⊢
  have p10 := p9.oth (by omega) hG h10 K10
  refine z_iconst (v := (-1)) dL_law_114 (by decide) ?_
  refine z_icmp_eq (tgt := 120) dL_law_115 (by decide) (fun _ => ?_) (fun c115 => absurd rfl c115)
  show zS _ _ _ _ _ _ _ 120 _ _ _ _ _
  refine z_iconst (v := 0) dL_law_120 (by decide) ?_
  refine z_istore6 dL_law_121 ?_
  refine z_iconst (v := 0) dL_law_123 (by decide) ?_
  refine z_istore7 dL_law_124 ?_
  have h9' : ¬ P 2 0 = -9 := h10.main (by omega) (by show ¬ P 2 5 = 0; rw [d5]; decide)
  have e04' : P 0 4 = 0 := d6.trans ((w5.2 4 (by decide)).trans e04)
  have e26' : g10.2.2.2 (c + 26) 0 = none := by
    rw [K10.2.2, K9.r26 h8 hG, K8.2.2, K7.2.2, K6.r26 h5 hG, K5.2.2]
    exact e26
  exact zS.wide (by omega) (by omega) (L_loop hd hNs hG hcc 12 0 P 0 g10 f10 _ _ none none none none none rfl ⟨⟨h10, p10, fun _ => e26'⟩, ⟨d2, d3, h9', e04'⟩, Or.inl rfl, fun _ => d4⟩ (by omega) (by omega))
theorem L_w21 (hd : 10 ≤ d) (hNs : zsN D ≤ 260) (hG : HG n0 c c' a) (hcc : c + 27 ≤ c') (hO0 : OB b0 n0 c 0 pinit g f) (hP0 : OB b0 n0 c' 0 pinit g f) (hA0 : ARR b0 g a) (e26 : g.2.2.2 (c + 26) 0 = none) : zS l d D b0 mL_law 60 13700 21 [some (.ref (zsB D)), some (.ref c), some (.ref c'), some (.ref a), none, none, none, none, none, none, none, none, none] [] g f (zq D b0 LQ) := by
  refine z_aload1 dL_law_21 ?_
  refine z_aload2 dL_law_22 ?_
  refine z_aload0 dL_law_23 ?_
  refine z_aload3 dL_law_24 ?_
  refine z_iconst (v := 0) dL_law_25 (by decide) ?_
  refine z_callS zmd_L_defines zl_RL_80 zst_L_defines (L_defines (d := d - 1) (p := 0) hO0 hP0 (by omega) (by omega) hA0 hG LABM.ini Z01.ini (by omega) hNs (by omega)) rfl rfl (by omega) rfl dL_law_26 (fun r3 g3 f3 mc3 ms3 q3 => ?_)
  obtain ⟨rfl, hc3, hs3, ⟨M3, h3, p3, A3, L3, Z3, e43⟩, e263⟩ := q3
  refine z_if_eq (tgt := 43) dL_law_29 (by decide) (fun c29 => absurd c29 (by decide)) (fun _ => ?_)
  show zS _ _ _ _ _ _ _ 32 _ _ _ _ _
  refine z_aload1 dL_law_32 ?_
  refine z_aload2 dL_law_33 ?_
  refine z_aload0 dL_law_34 ?_
  refine z_aload3 dL_law_35 ?_
  refine z_iconst (v := 1) dL_law_36 (by decide) ?_
  refine z_callS zmd_L_defines zl_RL_80 zst_L_defines (L_defines (d := d - 1) (p := 1) h3 p3 (by omega) (by omega) A3 hG L3 Z3 (by omega) hNs (by omega)) rfl rfl (by omega) rfl dL_law_37 (fun r4 g4 f4 mc4 ms4 q4 => ?_)
  obtain ⟨rfl, hc4, hs4, ⟨M4, h4, p4, A4, L4, Z4, e44⟩, e264⟩ := q4
  refine z_if_ne (tgt := 45) dL_law_40 (by decide) (fun _ => ?_) (fun c40 => absurd c40 (by decide))
  show zS _ _ _ _ _ _ _ 45 _ _ _ _ _
  exact zS.wide (by omega) (by omega) (L_w45 hd hNs hG hcc h4 p4 A4 L4 Z4 (e44.trans (e43.trans (pi_r (by decide)))) (by rw [e264, e263]; exact e26))
theorem L_law (hd : 10 ≤ d) (hNs : zsN D ≤ 260) : zS l d D b0 mL_law 0 0 0 [some (.ref (zsB D)), none, none, none, none, none, none, none, none, none, none, none, none] [] (g00 b0) f00 (zq D b0 LQ) := by
  refine z_new zcls_X11 zc_RL_10 zi_RX11 zini_RX11 dL_law_0 ?_
  refine z_dupr dL_law_3 ?_
  refine z_callI zmd_X11_init rfl rfl zl_RL_79 zin_X11_init (H_X11g (d := d - 1) (S := (g00 b0, f00)) (zOK.g00 b0) (by omega)) rfl rfl (by omega) rfl dL_law_4 (fun r1 g1 f1 mc1 ms1 q1 => ?_)
  obtain ⟨rfl, hc1, hs1, eg1, ef1, hok1⟩ := q1
  have eg1 : g1 = (PA1 b0).1 := eg1
  have ef1 : f1 = (PA1 b0).2 := ef1
  have hok1 : zOK b0 zNo (PA1 b0).1 := hok1
  subst eg1 ef1
  have z1 := PA1_z b0
  show zS _ _ _ _ _ _ _ 7 _ [.ref b0] _ _ _
  refine z_astore1 dL_law_7 ?_
  refine z_new zcls_X11 zc_RL_10 zi_RX11 zini_RX11 dL_law_8 ?_
  refine z_dupr dL_law_11 ?_
  refine z_callI zmd_X11_init rfl rfl zl_RL_79 zin_X11_init (H_X11g (d := d - 1) (S := PA1 b0) hok1 (by omega)) rfl rfl (by omega) rfl dL_law_12 (fun r2 g2 f2 mc2 ms2 q2 => ?_)
  obtain ⟨rfl, hc2, hs2, eg, ef, hok2⟩ := q2
  rw [z1] at eg ef hok2 ⊢
  have eg : g2 = (PA2 b0).1 := eg
  have ef : f2 = (PA2 b0).2 := ef
  have hok2 : zOK b0 zNo (PA2 b0).1 := hok2
  subst eg ef
  have z2 := PA2_z b0
  obtain ⟨hO0, hP0, hA0⟩ := P_ob hok2
  show zS _ _ _ _ _ _ _ 15 _ [.ref (b0 + 27)] _ _ _
  refine z_astore2 dL_law_15 ?_
  refine z_bipush (v := 64) dL_law_16 (by decide) ?_
  refine z_newa (N := 64) (by decide) (by decide) (by decide) zac_int dL_law_18 ?_
  rw [z2]
  show zS _ _ _ _ _ _ _ 20 _ _ (PA3 b0).1 (PA3 b0).2 _
  refine z_astore3 dL_law_20 ?_
  exact zS.wide (by omega) (by omega) (L_w21 hd hNs (n0 := b0 + 55) ⟨Or.inl (Nat.le_refl _), by omega, by omega, by omega⟩ (Nat.le_refl _) hO0 hP0 hA0 P_26)
end LST2
