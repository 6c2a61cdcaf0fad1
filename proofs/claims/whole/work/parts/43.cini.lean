/-! The class's constructors: the objects of a run. -/
theorem cpyF_dummy : True := trivial
def kiniX10 (S : zSt) (a : Nat) : zSt := uR (uN S 15 100) a 0 (some S.1.1)
def kiniX3 (S : zSt) (a : Nat) : zSt := uR (uN (uR (uN S 13 1000) a 0 (some S.1.1)) 13 1000) a 4 (some (S.1.1 + 1))
def kiniX4 (S : zSt) (a : Nat) : zSt := uR (uN (uR (uN (uR (uN S 13 240) a 0 (some S.1.1)) 14 240) a 3 (some (S.1.1 + 1))) 13 240) a 4 (some (S.1.1 + 2))
def kiniX5 (S : zSt) (a : Nat) : zSt := uR (uN (uR (uN (uR (uN S 18 1000) a 0 (some S.1.1)) 13 1000) a 1 (some (S.1.1 + 1))) 13 1000) a 3 (some (S.1.1 + 2))
def kiniX6 (S : zSt) (a : Nat) : zSt :=
  uR (uN (uR (uN (uR (uN (uR (uN (uR (uN (uR (uN S 14 120) a 0 (some S.1.1)) 14 121) a 4 (some (S.1.1 + 1))) 13 121) a 5 (some (S.1.1 + 2))) 13 121) a 6 (some (S.1.1 + 3))) 13 121) a 7 (some (S.1.1 + 4))) 14 121) a 8 (some (S.1.1 + 5))
set_option maxRecDepth 20000 in
theorem K_X10_init {l : Launch} {d : Nat} {D : zD} {b0 : Nat} {g : zG} {f : zI} {X : Nat → Prop} (hw : zOK b0 X g) (a : Nat) (ha : zIn b0 g a 10) (hX : X a) (hd : 1 ≤ d) : zM l d D b0 mX10_init [.ref a] g f (zCx b0 X g none (kiniX10 (g, f) a) 1 100) := by
  refine zM.start zmd_X10_init (Nat.le_of_ble_eq_true rfl) ⟨rfl, trivial⟩ [some (.ref a)] rfl ?_
  refine z_aload0 dX10_init_0 ?_
  refine z_objInit zl_RX10_3 zin_objectInit zcd_objectInit rfl (by omega) dX10_init_1 ?_
  refine z_aload0 dX10_init_4 ?_
  refine z_bipush (v := 100) dX10_init_5 (by decide) ?_
  refine zw_anew (t := 15) hw (by decide) (fun _ => rfl) (by decide) (by decide) (N := 100) rfl (by decide) zc_RX10_9 dX10_init_7 (fun w1 k1 i1 l1 => ?_)
  refine zw_putFXs w1 fl_RX10_11 (by decide) (Or.inr ⟨_, rfl⟩) rfl rfl (ha.le k1) i1 (Or.inl hX) dX10_init_10 (fun w2 => ?_)
  refine z_ret dX10_init_13 rfl ?_
  exact ⟨rfl, rfl, rfl, by omega, by omega, w2, k1⟩
set_option maxRecDepth 20000 in
theorem K_X3_init {l : Launch} {d : Nat} {D : zD} {b0 : Nat} {g : zG} {f : zI} {X : Nat → Prop} (hw : zOK b0 X g) (a : Nat) (ha : zIn b0 g a 3) (hX : X a) (hd : 1 ≤ d) : zM l d D b0 mX3_init [.ref a] g f (zCx b0 X g none (kiniX3 (g, f) a) 2 2000) := by
  refine zM.start zmd_X3_init (Nat.le_of_ble_eq_true rfl) ⟨rfl, trivial⟩ [some (.ref a)] rfl ?_
  refine z_aload0 dX3_init_0 ?_
  refine z_objInit zl_RX3_3 zin_objectInit zcd_objectInit rfl (by omega) dX3_init_1 ?_
  refine z_aload0 dX3_init_4 ?_
  refine z_sipush (v := 1000) dX3_init_5 (by decide) ?_
  refine zw_newa hw (by decide) (N := 1000) rfl (by decide) zac_int dX3_init_8 (fun w1 k1 i1 l1 => ?_)
  refine zw_putFXs w1 fl_RX3_9 (by decide) (Or.inr ⟨_, rfl⟩) rfl rfl (ha.le k1) i1 (Or.inl hX) dX3_init_10 (fun w2 => ?_)
  refine z_aload0 dX3_init_13 ?_
  refine z_sipush (v := 1000) dX3_init_14 (by decide) ?_
  refine zw_newa w2 (by decide) (N := 1000) rfl (by decide) zac_int dX3_init_17 (fun w3 k3 i3 l3 => ?_)
  refine zw_putFXs w3 fl_RX3_15 (by decide) (Or.inr ⟨_, rfl⟩) rfl rfl ((ha.le k1).le k3) i3 (Or.inl hX) dX3_init_19 (fun w4 => ?_)
  refine z_ret dX3_init_22 rfl ?_
  exact ⟨rfl, rfl, rfl, by omega, by omega, w4, (k1.tr k3)⟩
set_option maxRecDepth 20000 in
theorem K_X4_init {l : Launch} {d : Nat} {D : zD} {b0 : Nat} {g : zG} {f : zI} {X : Nat → Prop} (hw : zOK b0 X g) (a : Nat) (ha : zIn b0 g a 4) (hX : X a) (hd : 1 ≤ d) : zM l d D b0 mX4_init [.ref a] g f (zCx b0 X g none (kiniX4 (g, f) a) 3 720) := by
  refine zM.start zmd_X4_init (Nat.le_of_ble_eq_true rfl) ⟨rfl, trivial⟩ [some (.ref a)] rfl ?_
  refine z_aload0 dX4_init_0 ?_
  refine z_objInit zl_RX4_3 zin_objectInit zcd_objectInit rfl (by omega) dX4_init_1 ?_
  refine z_aload0 dX4_init_4 ?_
  refine z_sipush (v := 240) dX4_init_5 (by decide) ?_
  refine zw_newa hw (by decide) (N := 240) rfl (by decide) zac_int dX4_init_8 (fun w1 k1 i1 l1 => ?_)
  refine zw_putFXs w1 fl_RX4_11 (by decide) (Or.inr ⟨_, rfl⟩) rfl rfl (ha.le k1) i1 (Or.inl hX) dX4_init_10 (fun w2 => ?_)
  refine z_aload0 dX4_init_13 ?_
  refine z_sipush (v := 240) dX4_init_14 (by decide) ?_
  refine zw_anew (t := 14) w2 (by decide) (fun _ => rfl) (by decide) (by decide) (N := 240) rfl (by decide) zc_RX4_15 dX4_init_17 (fun w3 k3 i3 l3 => ?_)
  refine zw_putFXs w3 fl_RX4_17 (by decide) (Or.inr ⟨_, rfl⟩) rfl rfl ((ha.le k1).le k3) i3 (Or.inl hX) dX4_init_20 (fun w4 => ?_)
  refine z_aload0 dX4_init_23 ?_
  show zS _ _ _ _ _ _ _ 24 _ _ _ _ _
  refine z_sipush (v := 240) dX4_init_24 (by decide) ?_
  refine zw_newa w4 (by decide) (N := 240) rfl (by decide) zac_int dX4_init_27 (fun w5 k5 i5 l5 => ?_)
  refine zw_putFXs w5 fl_RX4_21 (by decide) (Or.inr ⟨_, rfl⟩) rfl rfl (((ha.le k1).le k3).le k5) i5 (Or.inl hX) dX4_init_29 (fun w6 => ?_)
  refine z_ret dX4_init_32 rfl ?_
  exact ⟨rfl, rfl, rfl, by omega, by omega, w6, ((k1.tr k3).tr k5)⟩
set_option maxRecDepth 20000 in
theorem K_X5_init {l : Launch} {d : Nat} {D : zD} {b0 : Nat} {g : zG} {f : zI} {X : Nat → Prop} (hw : zOK b0 X g) (a : Nat) (ha : zIn b0 g a 5) (hX : X a) (hd : 1 ≤ d) : zM l d D b0 mX5_init [.ref a] g f (zCx b0 X g none (kiniX5 (g, f) a) 3 3000) := by
  refine zM.start zmd_X5_init (Nat.le_of_ble_eq_true rfl) ⟨rfl, trivial⟩ [some (.ref a)] rfl ?_
  refine z_aload0 dX5_init_0 ?_
  refine z_objInit zl_RX5_3 zin_objectInit zcd_objectInit rfl (by omega) dX5_init_1 ?_
  refine z_aload0 dX5_init_4 ?_
  refine z_sipush (v := 1000) dX5_init_5 (by decide) ?_
  refine zw_anew (t := 18) hw (by decide) (fun _ => rfl) (by decide) (by decide) (N := 1000) rfl (by decide) zc_RX5_9 dX5_init_8 (fun w1 k1 i1 l1 => ?_)
  refine zw_putFXs w1 fl_RX5_11 (by decide) (Or.inr ⟨_, rfl⟩) rfl rfl (ha.le k1) i1 (Or.inl hX) dX5_init_11 (fun w2 => ?_)
  refine z_aload0 dX5_init_14 ?_
  refine z_sipush (v := 1000) dX5_init_15 (by decide) ?_
  refine zw_newa w2 (by decide) (N := 1000) rfl (by decide) zac_int dX5_init_18 (fun w3 k3 i3 l3 => ?_)
  refine zw_putFXs w3 fl_RX5_17 (by decide) (Or.inr ⟨_, rfl⟩) rfl rfl ((ha.le k1).le k3) i3 (Or.inl hX) dX5_init_20 (fun w4 => ?_)
  refine z_aload0 dX5_init_23 ?_
  show zS _ _ _ _ _ _ _ 24 _ _ _ _ _
  refine z_sipush (v := 1000) dX5_init_24 (by decide) ?_
  refine zw_newa w4 (by decide) (N := 1000) rfl (by decide) zac_int dX5_init_27 (fun w5 k5 i5 l5 => ?_)
  refine zw_putFXs w5 fl_RX5_21 (by decide) (Or.inr ⟨_, rfl⟩) rfl rfl (((ha.le k1).le k3).le k5) i5 (Or.inl hX) dX5_init_29 (fun w6 => ?_)
  refine z_ret dX5_init_32 rfl ?_
  exact ⟨rfl, rfl, rfl, by omega, by omega, w6, ((k1.tr k3).tr k5)⟩
set_option maxRecDepth 20000 in
theorem K_X6_init {l : Launch} {d : Nat} {D : zD} {b0 : Nat} {g : zG} {f : zI} {X : Nat → Prop} (hw : zOK b0 X g) (a : Nat) (ha : zIn b0 g a 6) (hX : X a) (hd : 1 ≤ d) : zM l d D b0 mX6_init [.ref a] g f (zCx b0 X g none (kiniX6 (g, f) a) 6 725) := by
  refine zM.start zmd_X6_init (Nat.le_of_ble_eq_true rfl) ⟨rfl, trivial⟩ [some (.ref a)] rfl ?_
  refine z_aload0 dX6_init_0 ?_
  refine z_objInit zl_RX6_3 zin_objectInit zcd_objectInit rfl (by omega) dX6_init_1 ?_
  refine z_aload0 dX6_init_4 ?_
  refine z_bipush (v := 120) dX6_init_5 (by decide) ?_
  refine zw_anew (t := 14) hw (by decide) (fun _ => rfl) (by decide) (by decide) (N := 120) rfl (by decide) zc_RX6_9 dX6_init_7 (fun w1 k1 i1 l1 => ?_)
  refine zw_putFXs w1 fl_RX6_11 (by decide) (Or.inr ⟨_, rfl⟩) rfl rfl (ha.le k1) i1 (Or.inl hX) dX6_init_10 (fun w2 => ?_)
  refine z_aload0 dX6_init_13 ?_
  refine z_bipush (v := 121) dX6_init_14 (by decide) ?_
  refine zw_anew (t := 14) w2 (by decide) (fun _ => rfl) (by decide) (by decide) (N := 121) rfl (by decide) zc_RX6_9 dX6_init_16 (fun w3 k3 i3 l3 => ?_)
  refine zw_putFXs w3 fl_RX6_17 (by decide) (Or.inr ⟨_, rfl⟩) rfl rfl ((ha.le k1).le k3) i3 (Or.inl hX) dX6_init_19 (fun w4 => ?_)
  refine z_aload0 dX6_init_22 ?_
  show zS _ _ _ _ _ _ _ 23 _ _ _ _ _
  refine z_bipush (v := 121) dX6_init_23 (by decide) ?_
  refine zw_newa w4 (by decide) (N := 121) rfl (by decide) zac_int dX6_init_25 (fun w5 k5 i5 l5 => ?_)
  refine zw_putFXs w5 fl_RX6_20 (by decide) (Or.inr ⟨_, rfl⟩) rfl rfl (((ha.le k1).le k3).le k5) i5 (Or.inl hX) dX6_init_27 (fun w6 => ?_)
  refine z_aload0 dX6_init_30 ?_
  refine z_bipush (v := 121) dX6_init_31 (by decide) ?_
  refine zw_newa w6 (by decide) (N := 121) rfl (by decide) zac_int dX6_init_33 (fun w7 k7 i7 l7 => ?_)
  refine zw_putFXs w7 fl_RX6_24 (by decide) (Or.inr ⟨_, rfl⟩) rfl rfl ((((ha.le k1).le k3).le k5).le k7) i7 (Or.inl hX) dX6_init_35 (fun w8 => ?_)
  refine z_aload0 dX6_init_38 ?_
  refine z_bipush (v := 121) dX6_init_39 (by decide) ?_
  refine zw_newa w8 (by decide) (N := 121) rfl (by decide) zac_int dX6_init_41 (fun w9 k9 i9 l9 => ?_)
  refine zw_putFXs w9 fl_RX6_27 (by decide) (Or.inr ⟨_, rfl⟩) rfl rfl (((((ha.le k1).le k3).le k5).le k7).le k9) i9 (Or.inl hX) dX6_init_43 (fun w10 => ?_)
  refine z_aload0 dX6_init_46 ?_
  show zS _ _ _ _ _ _ _ 47 _ _ _ _ _
  refine z_bipush (v := 121) dX6_init_47 (by decide) ?_
  refine zw_anew (t := 14) w10 (by decide) (fun _ => rfl) (by decide) (by decide) (N := 121) rfl (by decide) zc_RX6_9 dX6_init_49 (fun w11 k11 i11 l11 => ?_)
  refine zw_putFXs w11 fl_RX6_30 (by decide) (Or.inr ⟨_, rfl⟩) rfl rfl ((((((ha.le k1).le k3).le k5).le k7).le k9).le k11) i11 (Or.inl hX) dX6_init_52 (fun w12 => ?_)
  refine z_ret dX6_init_55 rfl ?_
  exact ⟨rfl, rfl, rfl, by omega, by omega, w12, (((((k1.tr k3).tr k5).tr k7).tr k9).tr k11)⟩
