/-! The law's checks of two objects; what may tells. -/
section LAL
variable {l : Launch} {d : Nat} {D : zD} {b0 n0 c c' k k' a : Nat} {g : zG} {f M : zI} {Q : Nat → Nat → zKT → Prop}
theorem L_alk1 (hO : OB b0 n0 c k M g f) (hP : OB b0 n0 c' k' M g f) (hd : 4 ≤ d) (hend : zS l d D b0 mL_areAlike 0 0 65 [some (.ref c), some (.ref c'), some (.int 1), some (.int (nI 13))] [] g f Q) : ∀ (n a : Nat), a + n = 13 → zS l d D b0 mL_areAlike 0 0 30 [some (.ref c), some (.ref c'), some (.int 1), some (.int (nI a))] [] g f Q := by
  intro n
  induction n with
  | zero =>
    intro a ha
    obtain rfl : a = 13 := by omega
    refine z_iload3 dL_areAlike_30 ?_
    refine z_bipush (v := 13) dL_areAlike_31 (by decide) ?_
    refine z_icmp_ge (tgt := 65) dL_areAlike_33 (by decide) (fun _ => ?_) (fun c33 => absurd c33 (by decide))
    show zS _ _ _ _ _ _ _ 65 _ _ _ _ _
    exact hend
  | succ n ih =>
    intro a ha
    refine z_iload3 dL_areAlike_30 ?_
    refine z_bipush (v := 13) dL_areAlike_31 (by decide) ?_
    refine z_icmp_ge (tgt := 65) dL_areAlike_33 (by decide) (fun c33 => absurd (nI_lt (b := 13) (show a < 13 by omega) (by decide)) c33) (fun _ => ?_)
    show zS _ _ _ _ _ _ _ 36 _ _ _ _ _
    refine z_iload2 dL_areAlike_36 ?_
    refine z_if_eq (tgt := 57) dL_areAlike_37 (by decide) (fun c37 => absurd c37 (by decide)) (fun _ => ?_)
    show zS _ _ _ _ _ _ _ 40 _ _ _ _ _
    refine z_aload0 dL_areAlike_40 ?_
    refine z_iload3 dL_areAlike_41 ?_
    refine z_callVi zmd_X11_told rfl (by decide) zl_RL_49 zin_X11_told zsel_X11_told (O_told (d := d - 1) hO (by omega) _) hO.inn rfl rfl (by omega) rfl dL_areAlike_42 ?_
    refine z_aload1 dL_areAlike_45 ?_
    refine z_iload3 dL_areAlike_46 ?_
    refine z_callVi zmd_X11_told rfl (by decide) zl_RL_49 zin_X11_told zsel_X11_told (O_told (d := d - 1) hP (by omega) _) hP.inn rfl rfl (by omega) rfl dL_areAlike_47 ?_
    refine z_icmp_ne (tgt := 57) dL_areAlike_50 (by decide) (fun c50 => absurd rfl c50) (fun _ => ?_)
    show zS _ _ _ _ _ _ _ 53 _ _ _ _ _
    refine z_iconst (v := 1) dL_areAlike_53 (by decide) ?_
    refine z_goto (tgt := 58) dL_areAlike_54 (by decide) ?_
    show zS _ _ _ _ _ _ _ 58 _ _ _ _ _
    refine z_istore2 dL_areAlike_58 ?_
    refine z_iinc3 (y := 1) dL_areAlike_59 (by decide) ?_
    refine z_goto (tgt := 30) dL_areAlike_62 (by decide) ?_
    show zS _ _ _ _ _ _ _ 30 _ _ _ _ _
    rw [show nI a + 1 = nI (a + 1) from ixA rfl (ixC 1)]
    exact ih (a + 1) (by omega)
theorem L_alk2 (hO : OB b0 n0 c k M g f) (hP : OB b0 n0 c' k' M g f) (hd : 4 ≤ d) {tt : Nat} (ht : tt ≤ 60) (e4 : ptold M 4 = nI tt) (hend : zS l d D b0 mL_areAlike 0 0 105 [some (.ref c), some (.ref c'), some (.int 1), some (.int (nI tt))] [] g f Q) : ∀ (n a : Nat), a + n = tt → zS l d D b0 mL_areAlike 0 0 67 [some (.ref c), some (.ref c'), some (.int 1), some (.int (nI a))] [] g f Q := by
  intro n
  induction n with
  | zero =>
    intro a ha
    obtain rfl : a = tt := by omega
    refine z_iload3 dL_areAlike_67 ?_
    refine z_aload0 dL_areAlike_68 ?_
    refine z_iconst (v := 4) dL_areAlike_69 (by decide) ?_
    refine z_callVi zmd_X11_told rfl (by decide) zl_RL_49 zin_X11_told zsel_X11_told (O_told (d := d - 1) hO (by omega) 4) hO.inn rfl rfl (by omega) rfl dL_areAlike_70 ?_
    rw [e4]
    refine z_icmp_ge (tgt := 105) dL_areAlike_73 (by decide) (fun _ => ?_) (fun c73 => absurd c73 (nI_nlt (Nat.le_refl _) (by omega)))
    show zS _ _ _ _ _ _ _ 105 _ _ _ _ _
    exact hend
  | succ n ih =>
    intro a ha
    refine z_iload3 dL_areAlike_67 ?_
    refine z_aload0 dL_areAlike_68 ?_
    refine z_iconst (v := 4) dL_areAlike_69 (by decide) ?_
    refine z_callVi zmd_X11_told rfl (by decide) zl_RL_49 zin_X11_told zsel_X11_told (O_told (d := d - 1) hO (by omega) 4) hO.inn rfl rfl (by omega) rfl dL_areAlike_70 ?_
    rw [e4]
    refine z_icmp_ge (tgt := 105) dL_areAlike_73 (by decide) (fun c73 => absurd (nI_lt (by omega) (by omega)) c73) (fun _ => ?_)
    show zS _ _ _ _ _ _ _ 76 _ _ _ _ _
    refine z_iload2 dL_areAlike_76 ?_
    refine z_if_eq (tgt := 97) dL_areAlike_77 (by decide) (fun c77 => absurd c77 (by decide)) (fun _ => ?_)
    show zS _ _ _ _ _ _ _ 80 _ _ _ _ _
    refine z_aload0 dL_areAlike_80 ?_
    refine z_iload3 dL_areAlike_81 ?_
    refine z_callVi zmd_X11_trace rfl (by decide) zl_RL_58 zin_X11_trace zsel_X11_trace (O_trace (d := d - 1) hO _) hO.inn rfl rfl (by omega) rfl dL_areAlike_82 ?_
    refine z_aload1 dL_areAlike_85 ?_
    refine z_iload3 dL_areAlike_86 ?_
    refine z_callVi zmd_X11_trace rfl (by decide) zl_RL_58 zin_X11_trace zsel_X11_trace (O_trace (d := d - 1) hP _) hP.inn rfl rfl (by omega) rfl dL_areAlike_87 ?_
    refine z_icmp_ne (tgt := 97) dL_areAlike_90 (by decide) (fun c90 => absurd rfl c90) (fun _ => ?_)
    show zS _ _ _ _ _ _ _ 93 _ _ _ _ _
    refine z_iconst (v := 1) dL_areAlike_93 (by decide) ?_
    refine z_goto (tgt := 98) dL_areAlike_94 (by decide) ?_
    show zS _ _ _ _ _ _ _ 98 _ _ _ _ _
    refine z_istore2 dL_areAlike_98 ?_
    refine z_iinc3 (y := 1) dL_areAlike_99 (by decide) ?_
    refine z_goto (tgt := 67) dL_areAlike_102 (by decide) ?_
    show zS _ _ _ _ _ _ _ 67 _ _ _ _ _
    rw [show nI a + 1 = nI (a + 1) from ixA rfl (ixC 1)]
    exact ih (a + 1) (by omega)
theorem L_alk3 (hO : OB b0 n0 c k M g f) (hP : OB b0 n0 c' k' M g f) (hd : 4 ≤ d) {dd : Nat} (ht : dd ≤ 100) (e2 : ptold M 2 = nI dd) (hend : zS l d D b0 mL_areAlike 0 0 162 [some (.ref c), some (.ref c'), some (.int 1), some (.int (nI dd))] [] g f Q) : ∀ (n a : Nat), a + n = dd → zS l d D b0 mL_areAlike 0 0 107 [some (.ref c), some (.ref c'), some (.int 1), some (.int (nI a))] [] g f Q := by
  intro n
  induction n with
  | zero =>
    intro a ha
    obtain rfl : a = dd := by omega
    refine z_iload3 dL_areAlike_107 ?_
    refine z_aload0 dL_areAlike_108 ?_
    refine z_iconst (v := 2) dL_areAlike_109 (by decide) ?_
    refine z_callVi zmd_X11_told rfl (by decide) zl_RL_49 zin_X11_told zsel_X11_told (O_told (d := d - 1) hO (by omega) 2) hO.inn rfl rfl (by omega) rfl dL_areAlike_110 ?_
    rw [e2]
    refine z_icmp_ge (tgt := 162) dL_areAlike_113 (by decide) (fun _ => ?_) (fun c113 => absurd c113 (nI_nlt (Nat.le_refl _) (by omega)))
    show zS _ _ _ _ _ _ _ 162 _ _ _ _ _
    exact hend
  | succ n ih =>
    intro a ha
    refine z_iload3 dL_areAlike_107 ?_
    refine z_aload0 dL_areAlike_108 ?_
    refine z_iconst (v := 2) dL_areAlike_109 (by decide) ?_
    refine z_callVi zmd_X11_told rfl (by decide) zl_RL_49 zin_X11_told zsel_X11_told (O_told (d := d - 1) hO (by omega) 2) hO.inn rfl rfl (by omega) rfl dL_areAlike_110 ?_
    rw [e2]
    refine z_icmp_ge (tgt := 162) dL_areAlike_113 (by decide) (fun c113 => absurd (nI_lt (by omega) (by omega)) c113) (fun _ => ?_)
    show zS _ _ _ _ _ _ _ 116 _ _ _ _ _
    refine z_iload2 dL_areAlike_116 ?_
    refine z_if_eq (tgt := 154) dL_areAlike_117 (by decide) (fun c117 => absurd c117 (by decide)) (fun _ => ?_)
    show zS _ _ _ _ _ _ _ 120 _ _ _ _ _
    refine z_aload0 dL_areAlike_120 ?_
    refine z_iload3 dL_areAlike_121 ?_
    refine z_iconst (v := 0) dL_areAlike_122 (by decide) ?_
    refine z_callVi zmd_X11_frame rfl (by decide) zl_RL_52 zin_X11_frame zsel_X11_frame (O_frame (d := d - 1) hO (by omega) _ _) hO.inn rfl rfl (by omega) rfl dL_areAlike_123 ?_
    refine z_aload1 dL_areAlike_126 ?_
    refine z_iload3 dL_areAlike_127 ?_
    refine z_iconst (v := 0) dL_areAlike_128 (by decide) ?_
    refine z_callVi zmd_X11_frame rfl (by decide) zl_RL_52 zin_X11_frame zsel_X11_frame (O_frame (d := d - 1) hP (by omega) _ _) hP.inn rfl rfl (by omega) rfl dL_areAlike_129 ?_
    refine z_icmp_ne (tgt := 154) dL_areAlike_132 (by decide) (fun c132 => absurd rfl c132) (fun _ => ?_)
    show zS _ _ _ _ _ _ _ 135 _ _ _ _ _
    refine z_aload0 dL_areAlike_135 ?_
    refine z_iload3 dL_areAlike_136 ?_
    refine z_iconst (v := 1) dL_areAlike_137 (by decide) ?_
    refine z_callVi zmd_X11_frame rfl (by decide) zl_RL_52 zin_X11_frame zsel_X11_frame (O_frame (d := d - 1) hO (by omega) _ _) hO.inn rfl rfl (by omega) rfl dL_areAlike_138 ?_
    refine z_aload1 dL_areAlike_141 ?_
    refine z_iload3 dL_areAlike_142 ?_
    refine z_iconst (v := 1) dL_areAlike_143 (by decide) ?_
    refine z_callVi zmd_X11_frame rfl (by decide) zl_RL_52 zin_X11_frame zsel_X11_frame (O_frame (d := d - 1) hP (by omega) _ _) hP.inn rfl rfl (by omega) rfl dL_areAlike_144 ?_
    refine z_icmp_ne (tgt := 154) dL_areAlike_147 (by decide) (fun c147 => absurd rfl c147) (fun _ => ?_)
    show zS _ _ _ _ _ _ _ 150 _ _ _ _ _
    refine z_iconst (v := 1) dL_areAlike_150 (by decide) ?_
    refine z_goto (tgt := 155) dL_areAlike_151 (by decide) ?_
    show zS _ _ _ _ _ _ _ 155 _ _ _ _ _
    refine z_istore2 dL_areAlike_155 ?_
    refine z_iinc3 (y := 1) dL_areAlike_156 (by decide) ?_
    refine z_goto (tgt := 107) dL_areAlike_159 (by decide) ?_
    show zS _ _ _ _ _ _ _ 107 _ _ _ _ _
    rw [show nI a + 1 = nI (a + 1) from ixA rfl (ixC 1)]
    exact ih (a + 1) (by omega)
theorem L_areAlike (hO : OB b0 n0 c k M g f) (hP : OB b0 n0 c' k' M g f) (hs : SND M) (hd : 4 ≤ d) : zM l d D b0 mL_areAlike [.ref c, .ref c'] g f (zEx (some (.int 1)) g f) := by
  obtain ⟨-, -, -, -, ⟨dd, v1, v2, -⟩, tt, w1, w2, -⟩ := hs
  refine zM.start zmd_L_areAlike (Nat.le_of_ble_eq_true rfl) ⟨rfl, rfl, trivial⟩ [some (.ref c), some (.ref c'), none, none] rfl ?_
  refine z_aload0 dL_areAlike_0 ?_
  refine z_callVi zmd_X11_value rfl (by decide) zl_RL_61 zin_X11_value zsel_X11_value (O_value (d := d - 1) hO) hO.inn rfl rfl (by omega) rfl dL_areAlike_1 ?_
  refine z_aload1 dL_areAlike_4 ?_
  refine z_callVi zmd_X11_value rfl (by decide) zl_RL_61 zin_X11_value zsel_X11_value (O_value (d := d - 1) hP) hP.inn rfl rfl (by omega) rfl dL_areAlike_5 ?_
  refine z_icmp_ne (tgt := 26) dL_areAlike_8 (by decide) (fun c8 => absurd rfl c8) (fun _ => ?_)
  show zS _ _ _ _ _ _ _ 11 _ _ _ _ _
  refine z_aload0 dL_areAlike_11 ?_
  refine z_callVi zmd_X11_focus rfl (by decide) zl_RL_55 zin_X11_focus zsel_X11_focus (O_focus (d := d - 1) hO) hO.inn rfl rfl (by omega) rfl dL_areAlike_12 ?_
  refine z_aload1 dL_areAlike_15 ?_
  refine z_callVi zmd_X11_focus rfl (by decide) zl_RL_55 zin_X11_focus zsel_X11_focus (O_focus (d := d - 1) hP) hP.inn rfl rfl (by omega) rfl dL_areAlike_16 ?_
  refine z_icmp_ne (tgt := 26) dL_areAlike_19 (by decide) (fun c19 => absurd rfl c19) (fun _ => ?_)
  show zS _ _ _ _ _ _ _ 22 _ _ _ _ _
  refine z_iconst (v := 1) dL_areAlike_22 (by decide) ?_
  refine z_goto (tgt := 27) dL_areAlike_23 (by decide) ?_
  show zS _ _ _ _ _ _ _ 27 _ _ _ _ _
  refine z_istore2 dL_areAlike_27 ?_
  refine z_iconst (v := 0) dL_areAlike_28 (by decide) ?_
  refine z_istore3 dL_areAlike_29 ?_
  refine L_alk1 hO hP hd ?_ 13 0 rfl
  refine z_iconst (v := 0) dL_areAlike_65 (by decide) ?_
  refine z_istore3 dL_areAlike_66 ?_
  refine L_alk2 hO hP hd w1 w2 ?_ tt 0 (Nat.zero_add _)
  refine z_iconst (v := 0) dL_areAlike_105 (by decide) ?_
  refine z_istore3 dL_areAlike_106 ?_
  refine L_alk3 hO hP hd v1 v2 ?_ dd 0 (Nat.zero_add _)
  refine z_iload2 dL_areAlike_162 ?_
  refine z_iret dL_areAlike_163 rfl ?_
  exact ⟨rfl, rfl, rfl, rfl, rfl⟩
/-- what comes of a check of what may happen: the state stays, k calls more at most four -/
def WQT (b0 n0 c k : Nat) (M : zI) (g : zG) (f : zI) : zP := fun r G F mc ms => r = some (.int 1) ∧ mc = 0 ∧ ms = 0 ∧ (∃ j, j ≤ 4 ∧ OB b0 n0 c (k + j) M G F) ∧ KP c g f G F
theorem L_wtl (hd : 7 ≤ d) {e : Int32} (e10 : ptold M 10 = e) {g0 : zG} {f0 : zI} : ∀ (n a : Nat) (g : zG) (f : zI) (k : Nat) (is : Int32) (cs ns : Nat), a + n = 4 → (is = 1 ∨ (is = 0 ∧ ∃ v, a ≤ v ∧ v < 4 ∧ (pmay M (-1) e (nI v)).1 = 1)) → OB b0 n0 c k M g f → 120 * (k + n) ≤ 64800 → KP c g0 f0 g f → cs = 0 → ns = 0 →
    (∀ (g : zG) (f : zI) (k' : Nat), k' ≤ k + n → k ≤ k' → OB b0 n0 c k' M g f → KP c g0 f0 g f → zS l d D b0 mL_wasTold 0 0 54 [some (.ref c), some (.int 1), some (.int (nI 4))] [] g f Q) →
    zS l d D b0 mL_wasTold cs ns 17 [some (.ref c), some (.int is), some (.int (nI a))] [] g f Q := by
  intro n
  induction n with
  | zero =>
    intro a g f k is cs ns ha his hO hk hK hcs hns hend
    obtain rfl : a = 4 := by omega
    subst hcs hns
    refine z_iload2 dL_wasTold_17 ?_
    refine z_iconst (v := 4) dL_wasTold_18 (by decide) ?_
    refine z_icmp_ge (tgt := 54) dL_wasTold_19 (by decide) (fun _ => ?_) (fun c19 => absurd c19 (by decide))
    show zS _ _ _ _ _ _ _ 54 _ _ _ _ _
    rcases his with rfl | ⟨-, v, v1, v2, -⟩
    · exact hend g f k (by omega) (Nat.le_refl _) hO hK
    · omega
  | succ n ih =>
    intro a g f k is cs ns ha his hO hk hK hcs hns hend
    subst hcs hns
    refine z_iload2 dL_wasTold_17 ?_
    refine z_iconst (v := 4) dL_wasTold_18 (by decide) ?_
    refine z_icmp_ge (tgt := 54) dL_wasTold_19 (by decide) (fun c19 => absurd (nI_lt (b := 4) (show a < 4 by omega) (by decide)) c19) (fun _ => ?_)
    show zS _ _ _ _ _ _ _ 22 _ _ _ _ _
    by_cases q : is = 1
    · subst q
      refine z_iload1 dL_wasTold_22 ?_
      refine z_if_ne (tgt := 42) dL_wasTold_23 (by decide) (fun _ => ?_) (fun c23 => absurd c23 (by decide))
      show zS _ _ _ _ _ _ _ 42 _ _ _ _ _
      refine z_iconst (v := 1) dL_wasTold_42 (by decide) ?_
      refine z_goto (tgt := 47) dL_wasTold_43 (by decide) ?_
      show zS _ _ _ _ _ _ _ 47 _ _ _ _ _
      refine z_istore1 dL_wasTold_47 ?_
      refine z_iinc2 (y := 1) dL_wasTold_48 (by decide) ?_
      refine z_goto (tgt := 17) dL_wasTold_51 (by decide) ?_
      show zS _ _ _ _ _ _ _ 17 _ _ _ _ _
      rw [show nI a + 1 = nI (a + 1) from ixA rfl (ixC 1)]
      exact ih (a + 1) g f k 1 0 0 (by omega) (Or.inl rfl) hO (by omega) hK rfl rfl (fun g f k' h1 h2 => hend g f k' (by omega) h2)
    · rcases his with rfl | ⟨rfl, v, v1, v2, v3⟩
      · exact absurd rfl q
      refine z_iload1 dL_wasTold_22 ?_
      refine z_if_ne (tgt := 42) dL_wasTold_23 (by decide) (fun c23 => absurd rfl c23) (fun _ => ?_)
      show zS _ _ _ _ _ _ _ 26 _ _ _ _ _
      refine z_aload0 dL_wasTold_26 ?_
      refine z_iconst (v := (-1)) dL_wasTold_27 (by decide) ?_
      refine z_aload0 dL_wasTold_28 ?_
      refine z_bipush (v := 10) dL_wasTold_29 (by decide) ?_
      refine z_callVi zmd_X11_told rfl (by decide) zl_RL_49 zin_X11_told zsel_X11_told (O_told (d := d - 1) hO (by omega) 10) hO.inn rfl rfl (by omega) rfl dL_wasTold_31 ?_
      rw [e10]
      refine z_iload2 dL_wasTold_34 ?_
      refine z_callV zmd_X11_may rfl (by decide) zl_RL_64 zin_X11_may zsel_X11_may (O_may (d := d - 1) hO (by omega) (by omega) _ _ _) hO.inn rfl rfl (by omega) rfl dL_wasTold_35 (fun r1 g1 f1 mc1 ms1 q1 => ?_)
      obtain ⟨rfl, hc1, hs1, h1, k1⟩ := q1
      obtain rfl : mc1 = 0 := by omega
      obtain rfl : ms1 = 0 := by omega
      show zS _ _ _ _ _ 0 0 38 _ [.int (pmay M (-1) e (nI a)).1] _ _ _
      refine z_iconst (v := 1) dL_wasTold_38 (by decide) ?_
      by_cases q1 : (pmay M (-1) e (nI a)).1 = 1
      · refine z_icmp_ne (tgt := 46) dL_wasTold_39 (by decide) (fun z => absurd q1 z) (fun _ => ?_)
        show zS _ _ _ _ _ _ _ 42 _ _ _ _ _
        refine z_iconst (v := 1) dL_wasTold_42 (by decide) ?_
        refine z_goto (tgt := 47) dL_wasTold_43 (by decide) ?_
        show zS _ _ _ _ _ _ _ 47 _ _ _ _ _
        refine z_istore1 dL_wasTold_47 ?_
        refine z_iinc2 (y := 1) dL_wasTold_48 (by decide) ?_
        refine z_goto (tgt := 17) dL_wasTold_51 (by decide) ?_
        show zS _ _ _ _ _ _ _ 17 _ _ _ _ _
        rw [show nI a + 1 = nI (a + 1) from ixA rfl (ixC 1)]
        exact ih (a + 1) _ _ (k + 1) 1 0 0 (by omega) (Or.inl rfl) h1 (by omega) (hK.tr k1) rfl rfl (fun g f k' h1 h2 => hend g f k' (by omega) (by omega))
      · refine z_icmp_ne (tgt := 46) dL_wasTold_39 (by decide) (fun _ => ?_) (fun z => absurd z q1)
        show zS _ _ _ _ _ _ _ 46 _ _ _ _ _
        refine z_iconst (v := 0) dL_wasTold_46 (by decide) ?_
        refine z_istore1 dL_wasTold_47 ?_
        refine z_iinc2 (y := 1) dL_wasTold_48 (by decide) ?_
        refine z_goto (tgt := 17) dL_wasTold_51 (by decide) ?_
        show zS _ _ _ _ _ _ _ 17 _ _ _ _ _
        rw [show nI a + 1 = nI (a + 1) from ixA rfl (ixC 1)]
        refine ih (a + 1) _ _ (k + 1) 0 0 0 (by omega) (Or.inr ⟨rfl, v, ?_, v2, v3⟩) h1 (by omega) (hK.tr k1) rfl rfl (fun g f k' h1 h2 => hend g f k' (by omega) (by omega))
        rcases Nat.lt_or_ge a v with z | z
        · exact z
        · exact absurd ((show v = a by omega) ▸ v3) q1
theorem L_wasTold (hO : OB b0 n0 c k M g f) (hk : 120 * (k + 4) ≤ 64800) (hd : 7 ≤ d) (hw : ¬ M 2 5 = 3 ∨ ∃ v, v < 4 ∧ (pmay M (-1) (M 2 15) (nI v)).1 = 1) : zM l d D b0 mL_wasTold [.ref c] g f (WQT b0 n0 c k M g f) := by
  refine zM.start zmd_L_wasTold (Nat.le_of_ble_eq_true rfl) ⟨rfl, trivial⟩ [some (.ref c), none, none] rfl ?_
  have h17 : ∀ is, (is = 1 ∨ (is = 0 ∧ ∃ v, 0 ≤ v ∧ v < 4 ∧ (pmay M (-1) (M 2 15) (nI v)).1 = 1)) → zS l d D b0 mL_wasTold 0 0 17 [some (.ref c), some (.int is), some (.int (nI 0))] [] g f (zq D b0 (WQT b0 n0 c k M g f)) := fun is his => by
    refine L_wtl hd (e := M 2 15) rfl 4 0 g f k is 0 0 rfl his hO hk KP.rf rfl rfl (fun g' f' k' h1 h2 h3 h4 => ?_)
    refine z_iload1 dL_wasTold_54 ?_
    refine z_iret dL_wasTold_55 rfl ?_
    exact ⟨rfl, rfl, rfl, ⟨k' - k, by omega, by rw [show k + (k' - k) = k' by omega]; exact h3⟩, h4⟩
  have e0 : ptold M 0 = M 2 5 := rfl
  by_cases q : ptold M 0 = 3
  · skip
    refine z_aload0 dL_wasTold_0 ?_
    refine z_iconst (v := 0) dL_wasTold_1 (by decide) ?_
    refine z_callVi zmd_X11_told rfl (by decide) zl_RL_49 zin_X11_told zsel_X11_told (O_told (d := d - 1) hO (by omega) 0) hO.inn rfl rfl (by omega) rfl dL_wasTold_2 ?_
    refine z_iconst (v := 3) dL_wasTold_5 (by decide) ?_
    refine z_icmp_eq (tgt := 13) dL_wasTold_6 (by decide) (fun _ => ?_) (fun c6 => absurd q c6)
    show zS _ _ _ _ _ _ _ 13 _ _ _ _ _
    refine z_iconst (v := 0) dL_wasTold_13 (by decide) ?_
    refine z_istore1 dL_wasTold_14 ?_
    refine z_iconst (v := 0) dL_wasTold_15 (by decide) ?_
    refine z_istore2 dL_wasTold_16 ?_
    refine h17 0 (Or.inr ⟨rfl, ?_⟩)
    rcases hw with z | ⟨v, v1, v2⟩
    · exact absurd q z
    · exact ⟨v, Nat.zero_le _, v1, v2⟩
  · skip
    refine z_aload0 dL_wasTold_0 ?_
    refine z_iconst (v := 0) dL_wasTold_1 (by decide) ?_
    refine z_callVi zmd_X11_told rfl (by decide) zl_RL_49 zin_X11_told zsel_X11_told (O_told (d := d - 1) hO (by omega) 0) hO.inn rfl rfl (by omega) rfl dL_wasTold_2 ?_
    refine z_iconst (v := 3) dL_wasTold_5 (by decide) ?_
    refine z_icmp_eq (tgt := 13) dL_wasTold_6 (by decide) (fun c6 => absurd c6 q) (fun _ => ?_)
    show zS _ _ _ _ _ _ _ 9 _ _ _ _ _
    refine z_iconst (v := 1) dL_wasTold_9 (by decide) ?_
    refine z_goto (tgt := 14) dL_wasTold_10 (by decide) ?_
    show zS _ _ _ _ _ _ _ 14 _ _ _ _ _
    refine z_istore1 dL_wasTold_14 ?_
    refine z_iconst (v := 0) dL_wasTold_15 (by decide) ?_
    refine z_istore2 dL_wasTold_16 ?_
    exact h17 1 (Or.inl rfl)
end LAL
