/-! The class's constructors: the objects of a run. -/
theorem cpyF_dummy : True := trivial
def kiniX10 (S : zSt) (a : Nat) : zSt := uR (uN S 15 100) a 0 (some S.1.1)
def kiniX3 (S : zSt) (a : Nat) : zSt := uR (uN (uR (uN S 13 1000) a 0 (some S.1.1)) 13 1000) a 4 (some (S.1.1 + 1))
def kiniX4 (S : zSt) (a : Nat) : zSt := uR (uN (uR (uN (uR (uN S 13 240) a 0 (some S.1.1)) 14 240) a 3 (some (S.1.1 + 1))) 13 240) a 4 (some (S.1.1 + 2))
def kiniX5 (S : zSt) (a : Nat) : zSt := uR (uN (uR (uN (uR (uN S 18 1000) a 0 (some S.1.1)) 13 1000) a 1 (some (S.1.1 + 1))) 13 1000) a 3 (some (S.1.1 + 2))
def kiniX6 (S : zSt) (a : Nat) : zSt :=
  uR (uN (uR (uN (uR (uN (uR (uN (uR (uN (uR (uN S 14 120) a 0 (some S.1.1)) 14 121) a 4 (some (S.1.1 + 1))) 13 121) a 5 (some (S.1.1 + 2))) 13 121) a 6 (some (S.1.1 + 3))) 13 121) a 7 (some (S.1.1 + 4))) 14 121) a 8 (some (S.1.1 + 5))
set_option maxRecDepth 20000 in
theorem K_X10_init {l : Launch} {d : Nat} {D : zD} {b0 : Nat} {g : zG} {f : zI} {X : Nat → Prop} (hw : zOK b0 X g) (a : Nat) (ha : zIn b0 g a 10) (hX : X a) (hd : 1 ≤ d) : zM l d D b0 mX10_init [.ref a] g f (zCx b0 X g none (kiniX10 (g, f) a) 1 100) := by
  refine zM.start zmd_X10_init (Nat.le_of_ble_eq_true rfl) ⟨rfl, trivial⟩ [some (.ref a)] rfl ?_
  refine z_aload0 dX10_init_0 ?_
  refine z_objInit zl_RX10_3 zin_objectInit zcd_objectInit rfl (by omega) dX10_init_1 ?_
  refine z_aload0 dX10_init_4 ?_
  refine z_bipush (v := 100) dX10_init_5 (by decide) ?_
  refine zw_anew (t := 15) hw (by decide) (fun _ => rfl) (by decide) (by decide) (N := 100) rfl (by decide) zc_RX10_9 dX10_init_7 (fun w1 k1 i1 l1 => ?_)
  refine zw_putFXs w1 fl_RX10_11 (by decide) (Or.inr ⟨_, rfl⟩) rfl rfl (ha.le k1) i1 (Or.inl hX) dX10_init_10 (fun w2 => ?_)
  refine z_ret dX10_init_13 rfl ?_
  exact ⟨rfl, rfl, rfl, by omega, by omega, w2, k1⟩
set_option maxRecDepth 20000 in
theorem K_X3_init {l : Launch} {d : Nat} {D : zD} {b0 : Nat} {g : zG} {f : zI} {X : Nat → Prop} (hw : zOK b0 X g) (a : Nat) (ha : zIn b0 g a 3) (hX : X a) (hd : 1 ≤ d) : zM l d D b0 mX3_init [.ref a] g f (zCx b0 X g none (kiniX3 (g, f) a) 2 2000) := by
  refine zM.start zmd_X3_init (Nat.le_of_ble_eq_true rfl) ⟨rfl, trivial⟩ [some (.ref a)] rfl ?_
  refine z_aload0 dX3_init_0 ?_
  refine z_objInit zl_RX3_3 zin_objectInit zcd_objectInit rfl (by omega) dX3_init_1 ?_
  refine z_aload0 dX3_init_4 ?_
  refine z_sipush (v := 1000) dX3_init_5 (by decide) ?_
  refine zw_newa hw (by decide) (N := 1000) rfl (by decide) zac_int dX3_init_8 (fun w1 k1 i1 l1 => ?_)
  refine zw_putFXs w1 fl_RX3_9 (by decide) (Or.inr ⟨_, rfl⟩) rfl rfl (ha.le k1) i1 (Or.inl hX) dX3_init_10 (fun w2 => ?_)
  refine z_aload0 dX3_init_13 ?_
  refine z_sipush (v := 1000) dX3_init_14 (by decide) ?_
  refine zw_newa w2 (by decide) (N := 1000) rfl (by decide) zac_int dX3_init_17 (fun w3 k3 i3 l3 => ?_)
  refine zw_putFXs w3 fl_RX3_15 (by decide) (Or.inr ⟨_, rfl⟩) rfl rfl ((ha.le k1).le k3) i3 (Or.inl hX) dX3_init_19 (fun w4 => ?_)
  refine z_ret dX3_init_22 rfl ?_
  exact ⟨rfl, rfl, rfl, by omega, by omega, w4, (k1.tr k3)⟩
set_option maxRecDepth 20000 in
theorem K_X4_init {l : Launch} {d : Nat} {D : zD} {b0 : Nat} {g : zG} {f : zI} {X : Nat → Prop} (hw : zOK b0 X g) (a : Nat) (ha : zIn b0 g a 4) (hX : X a) (hd : 1 ≤ d) : zM l d D b0 mX4_init [.ref a] g f (zCx b0 X g none (kiniX4 (g, f) a) 3 720) := by
  refine zM.start zmd_X4_init (Nat.le_of_ble_eq_true rfl) ⟨rfl, trivial⟩ [some (.ref a)] rfl ?_
  refine z_aload0 dX4_init_0 ?_
  refine z_objInit zl_RX4_3 zin_objectInit zcd_objectInit rfl (by omega) dX4_init_1 ?_
  refine z_aload0 dX4_init_4 ?_
  refine z_sipush (v := 240) dX4_init_5 (by decide) ?_
  refine zw_newa hw (by decide) (N := 240) rfl (by decide) zac_int dX4_init_8 (fun w1 k1 i1 l1 => ?_)
  refine zw_putFXs w1 fl_RX4_11 (by decide) (Or.inr ⟨_, rfl⟩) rfl rfl (ha.le k1) i1 (Or.inl hX) dX4_init_10 (fun w2 => ?_)
  refine z_aload0 dX4_init_13 ?_
  refine z_sipush (v := 240) dX4_init_14 (by decide) ?_
  refine zw_anew (t := 14) w2 (by decide) (fun _ => rfl) (by decide) (by decide) (N := 240) rfl (by decide) zc_RX4_15 dX4_init_17 (fun w3 k3 i3 l3 => ?_)
  refine zw_putFXs w3 fl_RX4_17 (by decide) (Or.inr ⟨_, rfl⟩) rfl rfl ((ha.le k1).le k3) i3 (Or.inl hX) dX4_init_20 (fun w4 => ?_)
  refine z_aload0 dX4_init_23 ?_
  show zS _ _ _ _ _ _ _ 24 _ _ _ _ _
  refine z_sipush (v := 240) dX4_init_24 (by decide) ?_
  refine zw_newa w4 (by decide) (N := 240) rfl (by decide) zac_int dX4_init_27 (fun w5 k5 i5 l5 => ?_)
  refine zw_putFXs w5 fl_RX4_21 (by decide) (Or.inr ⟨_, rfl⟩) rfl rfl (((ha.le k1).le k3).le k5) i5 (Or.inl hX) dX4_init_29 (fun w6 => ?_)
  refine z_ret dX4_init_32 rfl ?_
  exact ⟨rfl, rfl, rfl, by omega, by omega, w6, ((k1.tr k3).tr k5)⟩
set_option maxRecDepth 20000 in
theorem K_X5_init {l : Launch} {d : Nat} {D : zD} {b0 : Nat} {g : zG} {f : zI} {X : Nat → Prop} (hw : zOK b0 X g) (a : Nat) (ha : zIn b0 g a 5) (hX : X a) (hd : 1 ≤ d) : zM l d D b0 mX5_init [.ref a] g f (zCx b0 X g none (kiniX5 (g, f) a) 3 3000) := by
  refine zM.start zmd_X5_init (Nat.le_of_ble_eq_true rfl) ⟨rfl, trivial⟩ [some (.ref a)] rfl ?_
  refine z_aload0 dX5_init_0 ?_
  refine z_objInit zl_RX5_3 zin_objectInit zcd_objectInit rfl (by omega) dX5_init_1 ?_
  refine z_aload0 dX5_init_4 ?_
  refine z_sipush (v := 1000) dX5_init_5 (by decide) ?_
  refine zw_anew (t := 18) hw (by decide) (fun _ => rfl) (by decide) (by decide) (N := 1000) rfl (by decide) zc_RX5_9 dX5_init_8 (fun w1 k1 i1 l1 => ?_)
  refine zw_putFXs w1 fl_RX5_11 (by decide) (Or.inr ⟨_, rfl⟩) rfl rfl (ha.le k1) i1 (Or.inl hX) dX5_init_11 (fun w2 => ?_)
  refine z_aload0 dX5_init_14 ?_
  refine z_sipush (v := 1000) dX5_init_15 (by decide) ?_
  refine zw_newa w2 (by decide) (N := 1000) rfl (by decide) zac_int dX5_init_18 (fun w3 k3 i3 l3 => ?_)
  refine zw_putFXs w3 fl_RX5_17 (by decide) (Or.inr ⟨_, rfl⟩) rfl rfl ((ha.le k1).le k3) i3 (Or.inl hX) dX5_init_20 (fun w4 => ?_)
  refine z_aload0 dX5_init_23 ?_
  show zS _ _ _ _ _ _ _ 24 _ _ _ _ _
  refine z_sipush (v := 1000) dX5_init_24 (by decide) ?_
  refine zw_newa w4 (by decide) (N := 1000) rfl (by decide) zac_int dX5_init_27 (fun w5 k5 i5 l5 => ?_)
  refine zw_putFXs w5 fl_RX5_21 (by decide) (Or.inr ⟨_, rfl⟩) rfl rfl (((ha.le k1).le k3).le k5) i5 (Or.inl hX) dX5_init_29 (fun w6 => ?_)
  refine z_ret dX5_init_32 rfl ?_
  exact ⟨rfl, rfl, rfl, by omega, by omega, w6, ((k1.tr k3).tr k5)⟩
set_option maxRecDepth 20000 in
theorem K_X6_init {l : Launch} {d : Nat} {D : zD} {b0 : Nat} {g : zG} {f : zI} {X : Nat → Prop} (hw : zOK b0 X g) (a : Nat) (ha : zIn b0 g a 6) (hX : X a) (hd : 1 ≤ d) : zM l d D b0 mX6_init [.ref a] g f (zCx b0 X g none (kiniX6 (g, f) a) 6 725) := by
  refine zM.start zmd_X6_init (Nat.le_of_ble_eq_true rfl) ⟨rfl, trivial⟩ [some (.ref a)] rfl ?_
  refine z_aload0 dX6_init_0 ?_
  refine z_objInit zl_RX6_3 zin_objectInit zcd_objectInit rfl (by omega) dX6_init_1 ?_
  refine z_aload0 dX6_init_4 ?_
  refine z_bipush (v := 120) dX6_init_5 (by decide) ?_
  refine zw_anew (t := 14) hw (by decide) (fun _ => rfl) (by decide) (by decide) (N := 120) rfl (by decide) zc_RX6_9 dX6_init_7 (fun w1 k1 i1 l1 => ?_)
  refine zw_putFXs w1 fl_RX6_11 (by decide) (Or.inr ⟨_, rfl⟩) rfl rfl (ha.le k1) i1 (Or.inl hX) dX6_init_10 (fun w2 => ?_)
  refine z_aload0 dX6_init_13 ?_
  refine z_bipush (v := 121) dX6_init_14 (by decide) ?_
  refine zw_anew (t := 14) w2 (by decide) (fun _ => rfl) (by decide) (by decide) (N := 121) rfl (by decide) zc_RX6_9 dX6_init_16 (fun w3 k3 i3 l3 => ?_)
  refine zw_putFXs w3 fl_RX6_17 (by decide) (Or.inr ⟨_, rfl⟩) rfl rfl ((ha.le k1).le k3) i3 (Or.inl hX) dX6_init_19 (fun w4 => ?_)
  refine z_aload0 dX6_init_22 ?_
  show zS _ _ _ _ _ _ _ 23 _ _ _ _ _
  refine z_bipush (v := 121) dX6_init_23 (by decide) ?_
  refine zw_newa w4 (by decide) (N := 121) rfl (by decide) zac_int dX6_init_25 (fun w5 k5 i5 l5 => ?_)
  refine zw_putFXs w5 fl_RX6_20 (by decide) (Or.inr ⟨_, rfl⟩) rfl rfl (((ha.le k1).le k3).le k5) i5 (Or.inl hX) dX6_init_27 (fun w6 => ?_)
  refine z_aload0 dX6_init_30 ?_
  refine z_bipush (v := 121) dX6_init_31 (by decide) ?_
  refine zw_newa w6 (by decide) (N := 121) rfl (by decide) zac_int dX6_init_33 (fun w7 k7 i7 l7 => ?_)
  refine zw_putFXs w7 fl_RX6_24 (by decide) (Or.inr ⟨_, rfl⟩) rfl rfl ((((ha.le k1).le k3).le k5).le k7) i7 (Or.inl hX) dX6_init_35 (fun w8 => ?_)
  refine z_aload0 dX6_init_38 ?_
  refine z_bipush (v := 121) dX6_init_39 (by decide) ?_
  refine zw_newa w8 (by decide) (N := 121) rfl (by decide) zac_int dX6_init_41 (fun w9 k9 i9 l9 => ?_)
  refine zw_putFXs w9 fl_RX6_27 (by decide) (Or.inr ⟨_, rfl⟩) rfl rfl (((((ha.le k1).le k3).le k5).le k7).le k9) i9 (Or.inl hX) dX6_init_43 (fun w10 => ?_)
  refine z_aload0 dX6_init_46 ?_
  show zS _ _ _ _ _ _ _ 47 _ _ _ _ _
  refine z_bipush (v := 121) dX6_init_47 (by decide) ?_
  refine zw_anew (t := 14) w10 (by decide) (fun _ => rfl) (by decide) (by decide) (N := 121) rfl (by decide) zc_RX6_9 dX6_init_49 (fun w11 k11 i11 l11 => ?_)
  refine zw_putFXs w11 fl_RX6_30 (by decide) (Or.inr ⟨_, rfl⟩) rfl rfl ((((((ha.le k1).le k3).le k5).le k7).le k9).le k11) i11 (Or.inl hX) dX6_init_52 (fun w12 => ?_)
  refine z_ret dX6_init_55 rfl ?_
  exact ⟨rfl, rfl, rfl, by omega, by omega, w12, (((((k1.tr k3).tr k5).tr k7).tr k9).tr k11)⟩
def kiniX8 (S : zSt) (a : Nat) : zSt :=
  let S1 := uI (uR (uN S 16 4) a 1 (some S.1.1)) a 2 0
  let S2 := uR (kiniX10 (uN S1 10 0) (S.1.1 + 1)) a 8 (some (S.1.1 + 1))
  let S3 := uR (kiniX3 (uN S2 3 0) (S.1.1 + 3)) a 9 (some (S.1.1 + 3))
  let S4 := uR (uN S3 13 60) a 10 (some (S.1.1 + 6))
  let S5 := uR (uN S4 13 6) a 12 (some (S.1.1 + 7))
  uR (kiniX5 (uN S5 5 0) (S.1.1 + 8)) a 13 (some (S.1.1 + 8))
def kiniX11 (S : zSt) (a : Nat) : zSt :=
  let S1 := uI (uR (uN S 13 120) a 0 (some S.1.1)) a 1 0
  let S2 := uR (kiniX6 (uN S1 6 0) (S.1.1 + 1)) a 2 (some (S.1.1 + 1))
  let S3 := uR (kiniX4 (uN S2 4 0) (S.1.1 + 8)) a 3 (some (S.1.1 + 8))
  let S5 := uR (kiniX8 (uN S3 8 0) (S.1.1 + 12)) a 4 (some (S.1.1 + 12))
  uR (uN S5 17 2) a 5 (some (S.1.1 + 25))
set_option maxRecDepth 20000 in
theorem K_X8_init {l : Launch} {d : Nat} {D : zD} {b0 : Nat} {g : zG} {f : zI} {X : Nat → Prop} (hw : zOK b0 X g) (a : Nat) (ha : zIn b0 g a 8) (hX : X a) (hd : 2 ≤ d) : zM l d D b0 mX8_init [.ref a] g f (zCx b0 (fun y => ((X y ∨ y = g.1 + 1) ∨ y = g.1 + 3) ∨ y = g.1 + 8) g none (kiniX8 (g, f) a) 12 5185) := by
  refine zM.start zmd_X8_init (Nat.le_of_ble_eq_true rfl) ⟨rfl, trivial⟩ [some (.ref a)] rfl ?_
  refine z_aload0 dX8_init_0 ?_
  refine z_objInit zl_RX8_3 zin_objectInit zcd_objectInit rfl (by omega) dX8_init_1 ?_
  refine z_aload0 dX8_init_4 ?_
  refine z_iconst (v := 4) dX8_init_5 (by decide) ?_
  refine zw_anew (t := 16) hw (by decide) (fun _ => rfl) (by decide) (by decide) (N := 4) rfl (by decide) zc_RX8_9 dX8_init_6 (fun w1 k1 i1 l1 => ?_)
  refine zw_putFXs w1 fl_RX8_11 (by decide) (Or.inr ⟨_, rfl⟩) rfl rfl (ha.le k1) i1 (Or.inl hX) dX8_init_9 (fun w2 => ?_)
  refine z_aload0 dX8_init_12 ?_
  refine z_iconst (v := 0) dX8_init_13 (by decide) ?_
  refine z_putI fl_RX8_17 (ha.le k1) dX8_init_14 ?_
  refine z_aload0 dX8_init_17 ?_
  refine zw_newX w2 zcls_X10 zc_RX8_21 zi_RX10 zini_RX10 dX8_init_18 (fun w3 k3 i3 => ?_)
  show zS _ _ _ _ _ _ _ 21 _ _ _ _ _
  refine z_dup dX8_init_21 ?_
  refine z_callIN zmd_X10_init rfl rfl (host := "EffectMachine") (by decide) zin_X10_init (K_X10_init (d := d - 1) w3 _ i3 (Or.inr rfl) (by omega)) rfl rfl (by omega) rfl dX8_init_22 (fun r4 g4 f4 mc4 ms4 q4 => ?_)
  obtain ⟨rfl, rfl, rfl, hc4, hs4, w4, k4⟩ := q4
  refine zw_putFXs w4 fl_RX8_24 (by decide) (Or.inl ⟨_, rfl⟩) rfl rfl (((ha.le k1).le k3).le k4) (i3.le k4) (Or.inl (Or.inl hX)) dX8_init_25 (fun w5 => ?_)
  refine z_aload0 dX8_init_28 ?_
  refine zw_newX w5 zcls_X3 zc_RX8_28 zi_RX3 zini_RX3 dX8_init_29 (fun w6 k6 i6 => ?_)
  refine z_dup dX8_init_32 ?_
  refine z_callIN zmd_X3_init rfl rfl (host := "EffectMachine") (by decide) zin_X3_init (K_X3_init (d := d - 1) w6 _ i6 (Or.inr rfl) (by omega)) rfl rfl (by omega) rfl dX8_init_33 (fun r7 g7 f7 mc7 ms7 q7 => ?_)
  obtain ⟨rfl, rfl, rfl, hc7, hs7, w7, k7⟩ := q7
  refine zw_putFXs w7 fl_RX8_31 (by decide) (Or.inl ⟨_, rfl⟩) rfl rfl (((((ha.le k1).le k3).le k4).le k6).le k7) (i6.le k7) (Or.inl (Or.inl (Or.inl hX))) dX8_init_36 (fun w8 => ?_)
  refine z_aload0 dX8_init_39 ?_
  refine z_bipush (v := 60) dX8_init_40 (by decide) ?_
  refine zw_newa w8 (by decide) (N := 60) rfl (by decide) zac_int dX8_init_42 (fun w9 k9 i9 l9 => ?_)
  refine zw_putFXs w9 fl_RX8_35 (by decide) (Or.inr ⟨_, rfl⟩) rfl rfl ((((((ha.le k1).le k3).le k4).le k6).le k7).le k9) i9 (Or.inl (Or.inl (Or.inl hX))) dX8_init_44 (fun w10 => ?_)
  show zS _ _ _ _ _ _ _ 47 _ _ _ _ _
  refine z_aload0 dX8_init_47 ?_
  refine z_bipush (v := 6) dX8_init_48 (by decide) ?_
  refine zw_newa w10 (by decide) (N := 6) rfl (by decide) zac_int dX8_init_50 (fun w11 k11 i11 l11 => ?_)
  refine zw_putFXs w11 fl_RX8_39 (by decide) (Or.inr ⟨_, rfl⟩) rfl rfl (((((((ha.le k1).le k3).le k4).le k6).le k7).le k9).le k11) i11 (Or.inl (Or.inl (Or.inl hX))) dX8_init_52 (fun w12 => ?_)
  refine z_aload0 dX8_init_55 ?_
  refine zw_newX w12 zcls_X5 zc_RX8_42 zi_RX5 zini_RX5 dX8_init_56 (fun w13 k13 i13 => ?_)
  refine z_dup dX8_init_59 ?_
  refine z_callIN zmd_X5_init rfl rfl (host := "EffectMachine") (by decide) zin_X5_init (K_X5_init (d := d - 1) w13 _ i13 (Or.inr rfl) (by omega)) rfl rfl (by omega) rfl dX8_init_60 (fun r14 g14 f14 mc14 ms14 q14 => ?_)
  obtain ⟨rfl, rfl, rfl, hc14, hs14, w14, k14⟩ := q14
  refine zw_putFXs w14 fl_RX8_45 (by decide) (Or.inl ⟨_, rfl⟩) rfl rfl (((((((((ha.le k1).le k3).le k4).le k6).le k7).le k9).le k11).le k13).le k14) (i13.le k14) (Or.inl (Or.inl (Or.inl (Or.inl hX)))) dX8_init_63 (fun w15 => ?_)
  refine z_ret dX8_init_66 rfl ?_
  exact ⟨rfl, rfl, rfl, by omega, by omega, w15, ((((((((k1.tr k3).tr k4).tr k6).tr k7).tr k9).tr k11).tr k13).tr k14)⟩
theorem zz_R (g : zG) (a k : Nat) (v : Option Nat) : (zpR g a k v).1 = g.1 := rfl
theorem zz_N (g : zG) (t n : Nat) : (znG g t n).1 = g.1 + 1 := rfl
theorem zz_6 (S : zSt) (a : Nat) : (kiniX6 S a).1.1 = S.1.1 + 6 := rfl
theorem zz_4 (S : zSt) (a : Nat) : (kiniX4 S a).1.1 = S.1.1 + 3 := rfl
theorem zz_5 (S : zSt) (a : Nat) : (kiniX5 S a).1.1 = S.1.1 + 3 := rfl
theorem zz_8 (S : zSt) (a : Nat) : (kiniX8 S a).1.1 = S.1.1 + 12 := rfl
theorem zz_a (n a b : Nat) : n + a + b = n + (a + b) := Nat.add_assoc n a b
set_option maxRecDepth 20000 in
theorem K_X11_init {l : Launch} {d : Nat} {D : zD} {b0 : Nat} {g : zG} {f : zI} {X : Nat → Prop} (hw : zOK b0 X g) (a : Nat) (ha : zIn b0 g a 11) (hX : X a) (hd : 3 ≤ d) : zM l d D b0 mX11_init [.ref a] g f (fun r' g' f' mc ms => r' = none ∧ mc ≤ 26 ∧ ms ≤ 6782 ∧ zLe g g' ∧ zOK b0 (fun y => X y ∨ g.1 ≤ y) g' ∧ ∃ S1 S2 S4 : zSt,
    S1 = kiniX6 (uN (uI (uR (uN (g, f) 13 120) a 0 (some g.1)) a 1 0) 6 0) (g.1 + 1) ∧
    S2 = kiniX4 (uN (uR S1 a 2 (some (g.1 + 1))) 4 0) (g.1 + 8) ∧
    S4 = kiniX8 (uN (uR S2 a 3 (some (g.1 + 8))) 8 0) (g.1 + 12) ∧
    (g', f') = uR (uN (uR S4 a 4 (some (g.1 + 12))) 17 2) a 5 (some (g.1 + 25))) := by
  refine zM.start zmd_X11_init (Nat.le_of_ble_eq_true rfl) ⟨rfl, trivial⟩ [some (.ref a)] rfl ?_
  refine z_aload0 dX11_init_0 ?_
  refine z_objInit zl_RX11_3 zin_objectInit zcd_objectInit rfl (by omega) dX11_init_1 ?_
  refine z_aload0 dX11_init_4 ?_
  refine z_bipush (v := 120) dX11_init_5 (by decide) ?_
  refine zw_newa hw (by decide) (N := 120) rfl (by decide) zac_int dX11_init_7 (fun w1 k1 i1 l1 => ?_)
  refine zw_putFXs w1 fl_RX11_9 (by decide) (Or.inr ⟨_, rfl⟩) rfl rfl (ha.le k1) i1 (Or.inl hX) dX11_init_9 (fun w2 => ?_)
  refine z_aload0 dX11_init_12 ?_
  refine z_iconst (v := 0) dX11_init_13 (by decide) ?_
  refine z_putI fl_RX11_13 (ha.le k1) dX11_init_14 ?_
  refine z_aload0 dX11_init_17 ?_
  refine zw_newX w2 zcls_X6 zc_RX11_17 zi_RX6 zini_RX6 dX11_init_18 (fun w3 k3 i3 => ?_)
  show zS _ _ _ _ _ _ _ 21 _ _ _ _ _
  refine z_dup dX11_init_21 ?_
  refine z_callIN zmd_X6_init rfl rfl (host := "EffectMachine") (by decide) zin_X6_init (K_X6_init (d := d - 1) w3 _ i3 (Or.inr rfl) (by omega)) rfl rfl (by omega) rfl dX11_init_22 (fun r4 g4 f4 mc4 ms4 q4 => ?_)
  obtain ⟨rfl, eg4, ef4, hc4, hs4, w4, k4⟩ := q4
  have z4 : g4.1 = g.1 + 8 := by rw [eg4]; first | rfl | (simp only [zz_6, zz_4, zz_5, zz_8, zz_R, zz_N, zz_a, Nat.reduceAdd])
  refine zw_putFXs w4 fl_RX11_20 (by decide) (Or.inl ⟨_, rfl⟩) rfl rfl (((ha.le k1).le k3).le k4) (i3.le k4) (Or.inl (Or.inl hX)) dX11_init_25 (fun w5 => ?_)
  refine z_aload0 dX11_init_28 ?_
  refine zw_newX w5 zcls_X4 zc_RX11_24 zi_RX4 zini_RX4 dX11_init_29 (fun w6 k6 i6 => ?_)
  refine z_dup dX11_init_32 ?_
  refine z_callIN zmd_X4_init rfl rfl (host := "EffectMachine") (by decide) zin_X4_init (K_X4_init (d := d - 1) w6 _ i6 (Or.inr rfl) (by omega)) rfl rfl (by omega) rfl dX11_init_33 (fun r7 g7 f7 mc7 ms7 q7 => ?_)
  obtain ⟨rfl, eg7, ef7, hc7, hs7, w7, k7⟩ := q7
  have z7 : g7.1 = g.1 + 12 := by rw [eg7]; first | rfl | (simp only [zz_6, zz_4, zz_5, zz_8, zz_R, zz_N, zz_a, Nat.reduceAdd, z4])
  refine zw_putFXs w7 fl_RX11_27 (by decide) (Or.inl ⟨_, rfl⟩) rfl rfl (((((ha.le k1).le k3).le k4).le k6).le k7) (i6.le k7) (Or.inl (Or.inl (Or.inl hX))) dX11_init_36 (fun w8 => ?_)
  refine z_aload0 dX11_init_39 ?_
  refine zw_newX w8 zcls_X8 zc_RX11_31 zi_RX8 zini_RX8 dX11_init_40 (fun w9 k9 i9 => ?_)
  refine z_dup dX11_init_43 ?_
  refine z_callIN zmd_X8_init rfl rfl (host := "EffectMachine") (by decide) zin_X8_init (K_X8_init (d := d - 1) w9 _ i9 (Or.inr rfl) (by omega)) rfl rfl (by omega) rfl dX11_init_44 (fun r10 g10 f10 mc10 ms10 q10 => ?_)
  obtain ⟨rfl, eg10, ef10, hc10, hs10, w10, k10⟩ := q10
  have z10 : g10.1 = g.1 + 25 := by rw [eg10]; first | rfl | (simp only [zz_6, zz_4, zz_5, zz_8, zz_R, zz_N, zz_a, Nat.reduceAdd, z7])
  show zS _ _ _ _ _ _ _ 47 _ _ _ _ _
  refine zw_putFXs w10 fl_RX11_34 (by decide) (Or.inl ⟨_, rfl⟩) rfl rfl (((((((ha.le k1).le k3).le k4).le k6).le k7).le k9).le k10) (i9.le k10) (Or.inl (Or.inl (Or.inl (Or.inl (Or.inl (Or.inl (Or.inl hX))))))) dX11_init_47 (fun w11 => ?_)
  refine z_aload0 dX11_init_50 ?_
  refine z_iconst (v := 2) dX11_init_51 (by decide) ?_
  refine zw_anew (t := 17) w11 (by decide) (fun _ => rfl) (by decide) (by decide) (N := 2) rfl (by decide) zc_RX11_31 dX11_init_52 (fun w12 k12 i12 l12 => ?_)
  refine zw_putFXs w12 fl_RX11_38 (by decide) (Or.inr ⟨_, rfl⟩) rfl rfl ((((((((ha.le k1).le k3).le k4).le k6).le k7).le k9).le k10).le k12) i12 (Or.inl (Or.inl (Or.inl (Or.inl (Or.inl (Or.inl (Or.inl hX))))))) dX11_init_55 (fun w13 => ?_)
  refine z_ret dX11_init_58 rfl ?_
  refine ⟨rfl, by omega, by omega, (((((((k1.tr k3).tr k4).tr k6).tr k7).tr k9).tr k10).tr k12), w13.mono (fun y hy => ?_), (g4, f4), (g7, f7), (g10, f10), ?_, ?_, ?_, ?_⟩
  · rcases hy with ((((((h | h) | h) | h) | h) | h) | h)
    · exact Or.inl h
    · have h : y = g.1 + 1 := h
      exact Or.inr (by omega)
    · have h : y = g4.1 := h
      exact Or.inr (by omega)
    · have h : y = g7.1 := h
      exact Or.inr (by omega)
    · have h : y = g7.1 + 1 + 1 := h
      exact Or.inr (by omega)
    · have h : y = g7.1 + 1 + 3 := h
      exact Or.inr (by omega)
    · have h : y = g7.1 + 1 + 8 := h
      exact Or.inr (by omega)
  · rw [eg4, ef4]; rfl
  · rw [eg7, ef7]
    show kiniX4 (znG (zpR g4 a 2 (some (g.1 + 1))) 4 0, znI (zpR g4 a 2 (some (g.1 + 1))) f4) g4.1 = _
    rw [z4]; rfl
  · rw [eg10, ef10]
    show kiniX8 (znG (zpR g7 a 3 (some g4.1)) 8 0, znI (zpR g7 a 3 (some g4.1)) f7) g7.1 = _
    rw [z4, z7]; rfl
  · show (zpR (znG (zpR g10 a 4 (some g7.1)) 17 2) a 5 (some g10.1), znI (zpR g10 a 4 (some g7.1)) f10) = _
    rw [z7, z10]; rfl
