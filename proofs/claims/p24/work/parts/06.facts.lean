theorem zcls_X0 : zCls 0 RX0 TX0 3 := ⟨rfl, by decide, by decide +kernel, zu_X0, tyX0, tyX0_ok, nmX0, fun j hj => match j, hj with | 0, _ => rfl | 1, _ => rfl | 2, _ => rfl | (j + 3), h => absurd h (by omega)⟩
theorem zcls_X1 : zCls 1 RX1 TX1 10 := ⟨rfl, by decide, by decide +kernel, zu_X1, tyX1, tyX1_ok, nmX1, fun j hj => match j, hj with | 0, _ => rfl | 1, _ => rfl | 2, _ => rfl | 3, _ => rfl | 4, _ => rfl | 5, _ => rfl | 6, _ => rfl | 7, _ => rfl | 8, _ => rfl | 9, _ => rfl | (j + 10), h => absurd h (by omega)⟩
theorem zcls_X2 : zCls 2 RX2 TX2 5 := ⟨rfl, by decide, by decide +kernel, zu_X2, tyX2, tyX2_ok, nmX2, fun j hj => match j, hj with | 0, _ => rfl | 1, _ => rfl | 2, _ => rfl | 3, _ => rfl | 4, _ => rfl | (j + 5), h => absurd h (by omega)⟩
theorem zcls_X3 : zCls 3 RX3 TX3 7 := ⟨rfl, by decide, by decide +kernel, zu_X3, tyX3, tyX3_ok, nmX3, fun j hj => match j, hj with | 0, _ => rfl | 1, _ => rfl | 2, _ => rfl | 3, _ => rfl | 4, _ => rfl | 5, _ => rfl | 6, _ => rfl | (j + 7), h => absurd h (by omega)⟩
theorem zcls_X4 : zCls 4 RX4 TX4 6 := ⟨rfl, by decide, by decide +kernel, zu_X4, tyX4, tyX4_ok, nmX4, fun j hj => match j, hj with | 0, _ => rfl | 1, _ => rfl | 2, _ => rfl | 3, _ => rfl | 4, _ => rfl | 5, _ => rfl | (j + 6), h => absurd h (by omega)⟩
theorem zcls_X5 : zCls 5 RX5 TX5 5 := ⟨rfl, by decide, by decide +kernel, zu_X5, tyX5, tyX5_ok, nmX5, fun j hj => match j, hj with | 0, _ => rfl | 1, _ => rfl | 2, _ => rfl | 3, _ => rfl | 4, _ => rfl | (j + 5), h => absurd h (by omega)⟩
theorem zcls_X6 : zCls 6 RX6 TX6 10 := ⟨rfl, by decide, by decide +kernel, zu_X6, tyX6, tyX6_ok, nmX6, fun j hj => match j, hj with | 0, _ => rfl | 1, _ => rfl | 2, _ => rfl | 3, _ => rfl | 4, _ => rfl | 5, _ => rfl | 6, _ => rfl | 7, _ => rfl | 8, _ => rfl | 9, _ => rfl | (j + 10), h => absurd h (by omega)⟩
theorem zcls_X7 : zCls 7 RX7 TX7 2 := ⟨rfl, by decide, by decide +kernel, zu_X7, tyX7, tyX7_ok, nmX7, fun j hj => match j, hj with | 0, _ => rfl | 1, _ => rfl | (j + 2), h => absurd h (by omega)⟩
theorem zcls_X8 : zCls 8 RX8 TX8 14 := ⟨rfl, by decide, by decide +kernel, zu_X8, tyX8, tyX8_ok, nmX8, fun j hj => match j, hj with | 0, _ => rfl | 1, _ => rfl | 2, _ => rfl | 3, _ => rfl | 4, _ => rfl | 5, _ => rfl | 6, _ => rfl | 7, _ => rfl | 8, _ => rfl | 9, _ => rfl | 10, _ => rfl | 11, _ => rfl | 12, _ => rfl | 13, _ => rfl | (j + 14), h => absurd h (by omega)⟩
theorem zcls_X9 : zCls 9 RX9 TX9 4 := ⟨rfl, by decide, by decide +kernel, zu_X9, tyX9, tyX9_ok, nmX9, fun j hj => match j, hj with | 0, _ => rfl | 1, _ => rfl | 2, _ => rfl | 3, _ => rfl | (j + 4), h => absurd h (by omega)⟩
theorem zcls_X10 : zCls 10 RX10 TX10 3 := ⟨rfl, by decide, by decide +kernel, zu_X10, tyX10, tyX10_ok, nmX10, fun j hj => match j, hj with | 0, _ => rfl | 1, _ => rfl | 2, _ => rfl | (j + 3), h => absurd h (by omega)⟩
theorem zcls_X11 : zCls 11 RX11 TX11 6 := ⟨rfl, by decide, by decide +kernel, zu_X11, tyX11, tyX11_ok, nmX11, fun j hj => match j, hj with | 0, _ => rfl | 1, _ => rfl | 2, _ => rfl | 3, _ => rfl | 4, _ => rfl | 5, _ => rfl | (j + 6), h => absurd h (by omega)⟩
theorem fl_RX6_11 : zFl RX6 11 6 0 (.array (.object "EffectMachine$Expr")) true 14 := ⟨_, _, _, zcls_X6, by decide, zf_RX6_11, rfl, by decide +kernel, rfl, by decide +kernel, fun _ => Or.inr trivial⟩
theorem fl_RX6_33 : zFl RX6 33 6 1 .int false 99 := ⟨_, _, _, zcls_X6, by decide, zf_RX6_33, rfl, by decide +kernel, rfl, by decide +kernel, fun _ => Or.inr trivial⟩
theorem fl_RX6_43 : zFl RX6 43 6 2 .int false 99 := ⟨_, _, _, zcls_X6, by decide, zf_RX6_43, rfl, by decide +kernel, rfl, by decide +kernel, fun _ => Or.inr trivial⟩
theorem fl_RX6_40 : zFl RX6 40 6 3 .int false 99 := ⟨_, _, _, zcls_X6, by decide, zf_RX6_40, rfl, by decide +kernel, rfl, by decide +kernel, fun _ => Or.inr trivial⟩
theorem fl_RX6_17 : zFl RX6 17 6 4 (.array (.object "EffectMachine$Expr")) true 14 := ⟨_, _, _, zcls_X6, by decide, zf_RX6_17, rfl, by decide +kernel, rfl, by decide +kernel, fun _ => Or.inr trivial⟩
theorem fl_RX6_20 : zFl RX6 20 6 5 (.array .int) true 13 := ⟨_, _, _, zcls_X6, by decide, zf_RX6_20, rfl, by decide +kernel, rfl, by decide +kernel, fun _ => Or.inr trivial⟩
theorem fl_RX6_24 : zFl RX6 24 6 6 (.array .int) true 13 := ⟨_, _, _, zcls_X6, by decide, zf_RX6_24, rfl, by decide +kernel, rfl, by decide +kernel, fun _ => Or.inr trivial⟩
theorem fl_RX6_27 : zFl RX6 27 6 7 (.array .int) true 13 := ⟨_, _, _, zcls_X6, by decide, zf_RX6_27, rfl, by decide +kernel, rfl, by decide +kernel, fun _ => Or.inr trivial⟩
theorem fl_RX6_30 : zFl RX6 30 6 8 (.array (.object "EffectMachine$Expr")) true 14 := ⟨_, _, _, zcls_X6, by decide, zf_RX6_30, rfl, by decide +kernel, rfl, by decide +kernel, fun _ => Or.inr trivial⟩
theorem fl_RX6_37 : zFl RX6 37 6 9 .int false 99 := ⟨_, _, _, zcls_X6, by decide, zf_RX6_37, rfl, by decide +kernel, rfl, by decide +kernel, fun _ => Or.inr trivial⟩
theorem fl_RX4_11 : zFl RX4 11 4 0 (.array .int) true 13 := ⟨_, _, _, zcls_X4, by decide, zf_RX4_11, rfl, by decide +kernel, rfl, by decide +kernel, fun _ => Or.inr trivial⟩
theorem fl_RX4_24 : zFl RX4 24 4 1 .int false 99 := ⟨_, _, _, zcls_X4, by decide, zf_RX4_24, rfl, by decide +kernel, rfl, by decide +kernel, fun _ => Or.inr trivial⟩
theorem fl_RX4_31 : zFl RX4 31 4 2 .boolean false 99 := ⟨_, _, _, zcls_X4, by decide, zf_RX4_31, rfl, by decide +kernel, rfl, by decide +kernel, fun _ => Or.inr trivial⟩
theorem fl_RX4_17 : zFl RX4 17 4 3 (.array (.object "EffectMachine$Expr")) true 14 := ⟨_, _, _, zcls_X4, by decide, zf_RX4_17, rfl, by decide +kernel, rfl, by decide +kernel, fun _ => Or.inr trivial⟩
theorem fl_RX4_21 : zFl RX4 21 4 4 (.array .int) true 13 := ⟨_, _, _, zcls_X4, by decide, zf_RX4_21, rfl, by decide +kernel, rfl, by decide +kernel, fun _ => Or.inr trivial⟩
theorem fl_RX4_28 : zFl RX4 28 4 5 .int false 99 := ⟨_, _, _, zcls_X4, by decide, zf_RX4_28, rfl, by decide +kernel, rfl, by decide +kernel, fun _ => Or.inr trivial⟩
theorem fl_RX10_11 : zFl RX10 11 10 0 (.array (.object "EffectMachine$Frame")) true 15 := ⟨_, _, _, zcls_X10, by decide, zf_RX10_11, rfl, by decide +kernel, rfl, by decide +kernel, fun _ => Or.inr trivial⟩
theorem fl_RX8_252 : zFl RX8 252 10 0 (.array (.object "EffectMachine$Frame")) true 15 := ⟨_, _, _, zcls_X10, by decide, zf_RX8_252, rfl, by decide +kernel, rfl, by decide +kernel, fun _ => Or.inr trivial⟩
theorem fl_RX10_17 : zFl RX10 17 10 1 .int false 99 := ⟨_, _, _, zcls_X10, by decide, zf_RX10_17, rfl, by decide +kernel, rfl, by decide +kernel, fun _ => Or.inr trivial⟩
theorem fl_RX8_158 : zFl RX8 158 10 1 .int false 99 := ⟨_, _, _, zcls_X10, by decide, zf_RX8_158, rfl, by decide +kernel, rfl, by decide +kernel, fun _ => Or.inr trivial⟩
theorem fl_RX11_111 : zFl RX11 111 10 1 .int false 99 := ⟨_, _, _, zcls_X10, by decide, zf_RX11_111, rfl, by decide +kernel, rfl, by decide +kernel, fun _ => Or.inr trivial⟩
theorem fl_RX10_21 : zFl RX10 21 10 2 .int false 99 := ⟨_, _, _, zcls_X10, by decide, zf_RX10_21, rfl, by decide +kernel, rfl, by decide +kernel, fun _ => Or.inr trivial⟩
theorem fl_RX11_123 : zFl RX11 123 10 2 .int false 99 := ⟨_, _, _, zcls_X10, by decide, zf_RX11_123, rfl, by decide +kernel, rfl, by decide +kernel, fun _ => Or.inr trivial⟩
theorem fl_RX3_9 : zFl RX3 9 3 0 (.array .int) true 13 := ⟨_, _, _, zcls_X3, by decide, zf_RX3_9, rfl, by decide +kernel, rfl, by decide +kernel, fun _ => Or.inr trivial⟩
theorem fl_RX3_18 : zFl RX3 18 3 1 .int false 99 := ⟨_, _, _, zcls_X3, by decide, zf_RX3_18, rfl, by decide +kernel, rfl, by decide +kernel, fun _ => Or.inr trivial⟩
theorem fl_RX11_137 : zFl RX11 137 3 1 .int false 99 := ⟨_, _, _, zcls_X3, by decide, zf_RX11_137, rfl, by decide +kernel, rfl, by decide +kernel, fun _ => Or.inr trivial⟩
theorem fl_RX3_22 : zFl RX3 22 3 2 .int false 99 := ⟨_, _, _, zcls_X3, by decide, zf_RX3_22, rfl, by decide +kernel, rfl, by decide +kernel, fun _ => Or.inr trivial⟩
theorem fl_RX11_142 : zFl RX11 142 3 2 .int false 99 := ⟨_, _, _, zcls_X3, by decide, zf_RX11_142, rfl, by decide +kernel, rfl, by decide +kernel, fun _ => Or.inr trivial⟩
theorem fl_RX3_25 : zFl RX3 25 3 3 .int false 99 := ⟨_, _, _, zcls_X3, by decide, zf_RX3_25, rfl, by decide +kernel, rfl, by decide +kernel, fun _ => Or.inr trivial⟩
theorem fl_RX11_145 : zFl RX11 145 3 3 .int false 99 := ⟨_, _, _, zcls_X3, by decide, zf_RX11_145, rfl, by decide +kernel, rfl, by decide +kernel, fun _ => Or.inr trivial⟩
theorem fl_RX3_15 : zFl RX3 15 3 4 (.array .int) true 13 := ⟨_, _, _, zcls_X3, by decide, zf_RX3_15, rfl, by decide +kernel, rfl, by decide +kernel, fun _ => Or.inr trivial⟩
theorem fl_RX3_28 : zFl RX3 28 3 5 .int false 99 := ⟨_, _, _, zcls_X3, by decide, zf_RX3_28, rfl, by decide +kernel, rfl, by decide +kernel, fun _ => Or.inr trivial⟩
theorem fl_RX3_31 : zFl RX3 31 3 6 .int false 99 := ⟨_, _, _, zcls_X3, by decide, zf_RX3_31, rfl, by decide +kernel, rfl, by decide +kernel, fun _ => Or.inr trivial⟩
theorem fl_RX11_148 : zFl RX11 148 3 6 .int false 99 := ⟨_, _, _, zcls_X3, by decide, zf_RX11_148, rfl, by decide +kernel, rfl, by decide +kernel, fun _ => Or.inr trivial⟩
theorem fl_RX5_11 : zFl RX5 11 5 0 (.array (.object "EffectMachine$Resumption")) true 18 := ⟨_, _, _, zcls_X5, by decide, zf_RX5_11, rfl, by decide +kernel, rfl, by decide +kernel, fun _ => Or.inr trivial⟩
theorem fl_RX5_17 : zFl RX5 17 5 1 (.array .int) true 13 := ⟨_, _, _, zcls_X5, by decide, zf_RX5_17, rfl, by decide +kernel, rfl, by decide +kernel, fun _ => Or.inr trivial⟩
theorem fl_RX5_28 : zFl RX5 28 5 2 .int false 99 := ⟨_, _, _, zcls_X5, by decide, zf_RX5_28, rfl, by decide +kernel, rfl, by decide +kernel, fun _ => Or.inr trivial⟩
theorem fl_RX5_21 : zFl RX5 21 5 3 (.array .int) true 13 := ⟨_, _, _, zcls_X5, by decide, zf_RX5_21, rfl, by decide +kernel, rfl, by decide +kernel, fun _ => Or.inr trivial⟩
theorem fl_RX5_24 : zFl RX5 24 5 4 .int false 99 := ⟨_, _, _, zcls_X5, by decide, zf_RX5_24, rfl, by decide +kernel, rfl, by decide +kernel, fun _ => Or.inr trivial⟩
theorem fl_RX8_49 : zFl RX8 49 8 0 (.object "EffectMachine$Body") false 0 := ⟨_, _, _, zcls_X8, by decide, zf_RX8_49, rfl, by decide +kernel, rfl, by decide +kernel, fun _ => Or.inr trivial⟩
theorem fl_RX11_63 : zFl RX11 63 8 0 (.object "EffectMachine$Body") false 0 := ⟨_, _, _, zcls_X8, by decide, zf_RX11_63, rfl, by decide +kernel, rfl, by decide +kernel, fun _ => Or.inr trivial⟩
theorem fl_RX8_11 : zFl RX8 11 8 1 (.array (.object "EffectMachine$Body")) true 16 := ⟨_, _, _, zcls_X8, by decide, zf_RX8_11, rfl, by decide +kernel, rfl, by decide +kernel, fun _ => Or.inr trivial⟩
theorem fl_RX11_78 : zFl RX11 78 8 1 (.array (.object "EffectMachine$Body")) true 16 := ⟨_, _, _, zcls_X8, by decide, zf_RX11_78, rfl, by decide +kernel, rfl, by decide +kernel, fun _ => Or.inr trivial⟩
theorem fl_RX8_17 : zFl RX8 17 8 2 .int false 99 := ⟨_, _, _, zcls_X8, by decide, zf_RX8_17, rfl, by decide +kernel, rfl, by decide +kernel, fun _ => Or.inr trivial⟩
theorem fl_RX11_82 : zFl RX11 82 8 2 .int false 99 := ⟨_, _, _, zcls_X8, by decide, zf_RX11_82, rfl, by decide +kernel, rfl, by decide +kernel, fun _ => Or.inr trivial⟩
theorem fl_RX8_53 : zFl RX8 53 8 3 .int false 99 := ⟨_, _, _, zcls_X8, by decide, zf_RX8_53, rfl, by decide +kernel, rfl, by decide +kernel, fun _ => Or.inr trivial⟩
theorem fl_RX11_120 : zFl RX11 120 8 3 .int false 99 := ⟨_, _, _, zcls_X8, by decide, zf_RX11_120, rfl, by decide +kernel, rfl, by decide +kernel, fun _ => Or.inr trivial⟩
theorem fl_RX8_56 : zFl RX8 56 8 4 (.object "EffectMachine$Expr") false 1 := ⟨_, _, _, zcls_X8, by decide, zf_RX8_56, rfl, by decide +kernel, rfl, by decide +kernel, fun _ => Or.inr trivial⟩
theorem fl_RX11_157 : zFl RX11 157 8 4 (.object "EffectMachine$Expr") false 1 := ⟨_, _, _, zcls_X8, by decide, zf_RX11_157, rfl, by decide +kernel, rfl, by decide +kernel, fun _ => Or.inr trivial⟩
theorem fl_RX8_60 : zFl RX8 60 8 5 (.object "EffectMachine$Scope") false 9 := ⟨_, _, _, zcls_X8, by decide, zf_RX8_60, rfl, by decide +kernel, rfl, by decide +kernel, fun _ => Or.inr trivial⟩
theorem fl_RX8_64 : zFl RX8 64 8 6 .int false 99 := ⟨_, _, _, zcls_X8, by decide, zf_RX8_64, rfl, by decide +kernel, rfl, by decide +kernel, fun _ => Or.inr trivial⟩
theorem fl_RX11_160 : zFl RX11 160 8 6 .int false 99 := ⟨_, _, _, zcls_X8, by decide, zf_RX11_160, rfl, by decide +kernel, rfl, by decide +kernel, fun _ => Or.inr trivial⟩
theorem fl_RX8_67 : zFl RX8 67 8 7 .int false 99 := ⟨_, _, _, zcls_X8, by decide, zf_RX8_67, rfl, by decide +kernel, rfl, by decide +kernel, fun _ => Or.inr trivial⟩
theorem fl_RX11_151 : zFl RX11 151 8 7 .int false 99 := ⟨_, _, _, zcls_X8, by decide, zf_RX11_151, rfl, by decide +kernel, rfl, by decide +kernel, fun _ => Or.inr trivial⟩
theorem fl_RX8_24 : zFl RX8 24 8 8 (.object "EffectMachine$Stack") true 10 := ⟨_, _, _, zcls_X8, by decide, zf_RX8_24, rfl, by decide +kernel, rfl, by decide +kernel, fun _ => Or.inr trivial⟩
theorem fl_RX11_107 : zFl RX11 107 8 8 (.object "EffectMachine$Stack") true 10 := ⟨_, _, _, zcls_X8, by decide, zf_RX11_107, rfl, by decide +kernel, rfl, by decide +kernel, fun _ => Or.inr trivial⟩
theorem fl_RX8_31 : zFl RX8 31 8 9 (.object "EffectMachine$Ledger") true 3 := ⟨_, _, _, zcls_X8, by decide, zf_RX8_31, rfl, by decide +kernel, rfl, by decide +kernel, fun _ => Or.inr trivial⟩
theorem fl_RX11_133 : zFl RX11 133 8 9 (.object "EffectMachine$Ledger") true 3 := ⟨_, _, _, zcls_X8, by decide, zf_RX11_133, rfl, by decide +kernel, rfl, by decide +kernel, fun _ => Or.inr trivial⟩
theorem fl_RX8_35 : zFl RX8 35 8 10 (.array .int) true 13 := ⟨_, _, _, zcls_X8, by decide, zf_RX8_35, rfl, by decide +kernel, rfl, by decide +kernel, fun _ => Or.inr trivial⟩
theorem fl_RX11_163 : zFl RX11 163 8 10 (.array .int) true 13 := ⟨_, _, _, zcls_X8, by decide, zf_RX11_163, rfl, by decide +kernel, rfl, by decide +kernel, fun _ => Or.inr trivial⟩
theorem fl_RX8_83 : zFl RX8 83 8 11 .int false 99 := ⟨_, _, _, zcls_X8, by decide, zf_RX8_83, rfl, by decide +kernel, rfl, by decide +kernel, fun _ => Or.inr trivial⟩
theorem fl_RX11_126 : zFl RX11 126 8 11 .int false 99 := ⟨_, _, _, zcls_X8, by decide, zf_RX11_126, rfl, by decide +kernel, rfl, by decide +kernel, fun _ => Or.inr trivial⟩
theorem fl_RX8_39 : zFl RX8 39 8 12 (.array .int) true 13 := ⟨_, _, _, zcls_X8, by decide, zf_RX8_39, rfl, by decide +kernel, rfl, by decide +kernel, fun _ => Or.inr trivial⟩
theorem fl_RX11_166 : zFl RX11 166 8 12 (.array .int) true 13 := ⟨_, _, _, zcls_X8, by decide, zf_RX11_166, rfl, by decide +kernel, rfl, by decide +kernel, fun _ => Or.inr trivial⟩
theorem fl_RX8_45 : zFl RX8 45 8 13 (.object "EffectMachine$PendingSearch") true 5 := ⟨_, _, _, zcls_X8, by decide, zf_RX8_45, rfl, by decide +kernel, rfl, by decide +kernel, fun _ => Or.inr trivial⟩
theorem fl_RX11_9 : zFl RX11 9 11 0 (.array .int) true 13 := ⟨_, _, _, zcls_X11, by decide, zf_RX11_9, rfl, by decide +kernel, rfl, by decide +kernel, fun _ => Or.inr trivial⟩
theorem fl_RX11_13 : zFl RX11 13 11 1 .int false 99 := ⟨_, _, _, zcls_X11, by decide, zf_RX11_13, rfl, by decide +kernel, rfl, by decide +kernel, fun _ => Or.inr trivial⟩
theorem fl_RX11_20 : zFl RX11 20 11 2 (.object "EffectMachine$Reader") true 6 := ⟨_, _, _, zcls_X11, by decide, zf_RX11_20, rfl, by decide +kernel, rfl, by decide +kernel, fun _ => Or.inr trivial⟩
theorem fl_RX11_27 : zFl RX11 27 11 3 (.object "EffectMachine$Lister") true 4 := ⟨_, _, _, zcls_X11, by decide, zf_RX11_27, rfl, by decide +kernel, rfl, by decide +kernel, fun _ => Or.inr trivial⟩
theorem fl_RX11_34 : zFl RX11 34 11 4 (.object "EffectMachine$Run") true 8 := ⟨_, _, _, zcls_X11, by decide, zf_RX11_34, rfl, by decide +kernel, rfl, by decide +kernel, fun _ => Or.inr trivial⟩
theorem fl_RX11_38 : zFl RX11 38 11 5 (.array (.object "EffectMachine$Run")) true 17 := ⟨_, _, _, zcls_X11, by decide, zf_RX11_38, rfl, by decide +kernel, rfl, by decide +kernel, fun _ => Or.inr trivial⟩
theorem fl_RX1_9 : zFl RX1 9 1 0 .int true 99 := ⟨_, _, _, zcls_X1, by decide, zf_RX1_9, rfl, by decide +kernel, rfl, by decide +kernel, fun _ => Or.inr trivial⟩
theorem fl_RX4_84 : zFl RX4 84 1 0 .int true 99 := ⟨_, _, _, zcls_X1, by decide, zf_RX4_84, rfl, by decide +kernel, rfl, by decide +kernel, fun _ => Or.inr trivial⟩
theorem fl_RX6_118 : zFl RX6 118 1 0 .int true 99 := ⟨_, _, _, zcls_X1, by decide, zf_RX6_118, rfl, by decide +kernel, rfl, by decide +kernel, fun _ => Or.inr trivial⟩
theorem fl_RX8_176 : zFl RX8 176 1 0 .int true 99 := ⟨_, _, _, zcls_X1, by decide, zf_RX8_176, rfl, by decide +kernel, rfl, by decide +kernel, fun _ => Or.inr trivial⟩
theorem fl_RX6_63 : zFl RX6 63 1 1 .int false 99 := ⟨_, _, _, zcls_X1, by decide, zf_RX6_63, rfl, by decide +kernel, rfl, by decide +kernel, fun _ => Or.inr trivial⟩
theorem fl_RX8_111 : zFl RX8 111 1 1 .int false 99 := ⟨_, _, _, zcls_X1, by decide, zf_RX8_111, rfl, by decide +kernel, rfl, by decide +kernel, fun _ => Or.inr trivial⟩
theorem fl_RX4_87 : zFl RX4 87 1 1 .int false 99 := ⟨_, _, _, zcls_X1, by decide, zf_RX4_87, rfl, by decide +kernel, rfl, by decide +kernel, fun _ => Or.inr trivial⟩
theorem fl_RX10_37 : zFl RX10 37 1 1 .int false 99 := ⟨_, _, _, zcls_X1, by decide, zf_RX10_37, rfl, by decide +kernel, rfl, by decide +kernel, fun _ => Or.inr trivial⟩
theorem fl_RX1_58 : zFl RX1 58 1 1 .int false 99 := ⟨_, _, _, zcls_X1, by decide, zf_RX1_58, rfl, by decide +kernel, rfl, by decide +kernel, fun _ => Or.inr trivial⟩
theorem fl_RX4_73 : zFl RX4 73 1 2 (.object "EffectMachine$Expr") false 1 := ⟨_, _, _, zcls_X1, by decide, zf_RX4_73, rfl, by decide +kernel, rfl, by decide +kernel, fun _ => Or.inr trivial⟩
theorem fl_RX6_106 : zFl RX6 106 1 2 (.object "EffectMachine$Expr") false 1 := ⟨_, _, _, zcls_X1, by decide, zf_RX6_106, rfl, by decide +kernel, rfl, by decide +kernel, fun _ => Or.inr trivial⟩
theorem fl_RX1_41 : zFl RX1 41 1 2 (.object "EffectMachine$Expr") false 1 := ⟨_, _, _, zcls_X1, by decide, zf_RX1_41, rfl, by decide +kernel, rfl, by decide +kernel, fun _ => Or.inr trivial⟩
theorem fl_RX8_199 : zFl RX8 199 1 2 (.object "EffectMachine$Expr") false 1 := ⟨_, _, _, zcls_X1, by decide, zf_RX8_199, rfl, by decide +kernel, rfl, by decide +kernel, fun _ => Or.inr trivial⟩
theorem fl_RX4_70 : zFl RX4 70 1 3 (.object "EffectMachine$Expr") false 1 := ⟨_, _, _, zcls_X1, by decide, zf_RX4_70, rfl, by decide +kernel, rfl, by decide +kernel, fun _ => Or.inr trivial⟩
theorem fl_RX6_112 : zFl RX6 112 1 3 (.object "EffectMachine$Expr") false 1 := ⟨_, _, _, zcls_X1, by decide, zf_RX6_112, rfl, by decide +kernel, rfl, by decide +kernel, fun _ => Or.inr trivial⟩
theorem fl_RX1_49 : zFl RX1 49 1 3 (.object "EffectMachine$Expr") false 1 := ⟨_, _, _, zcls_X1, by decide, zf_RX1_49, rfl, by decide +kernel, rfl, by decide +kernel, fun _ => Or.inr trivial⟩
theorem fl_RX8_221 : zFl RX8 221 1 3 (.object "EffectMachine$Expr") false 1 := ⟨_, _, _, zcls_X1, by decide, zf_RX8_221, rfl, by decide +kernel, rfl, by decide +kernel, fun _ => Or.inr trivial⟩
theorem fl_RX4_63 : zFl RX4 63 1 4 (.object "EffectMachine$Expr") false 1 := ⟨_, _, _, zcls_X1, by decide, zf_RX4_63, rfl, by decide +kernel, rfl, by decide +kernel, fun _ => Or.inr trivial⟩
theorem fl_RX6_115 : zFl RX6 115 1 4 (.object "EffectMachine$Expr") false 1 := ⟨_, _, _, zcls_X1, by decide, zf_RX6_115, rfl, by decide +kernel, rfl, by decide +kernel, fun _ => Or.inr trivial⟩
theorem fl_RX1_52 : zFl RX1 52 1 4 (.object "EffectMachine$Expr") false 1 := ⟨_, _, _, zcls_X1, by decide, zf_RX1_52, rfl, by decide +kernel, rfl, by decide +kernel, fun _ => Or.inr trivial⟩
theorem fl_RX8_228 : zFl RX8 228 1 4 (.object "EffectMachine$Expr") false 1 := ⟨_, _, _, zcls_X1, by decide, zf_RX8_228, rfl, by decide +kernel, rfl, by decide +kernel, fun _ => Or.inr trivial⟩
theorem fl_RX1_15 : zFl RX1 15 1 5 (.array (.object "EffectMachine$Expr")) false 14 := ⟨_, _, _, zcls_X1, by decide, zf_RX1_15, rfl, by decide +kernel, rfl, by decide +kernel, fun _ => Or.inr trivial⟩
theorem fl_RX4_57 : zFl RX4 57 1 5 (.array (.object "EffectMachine$Expr")) false 14 := ⟨_, _, _, zcls_X1, by decide, zf_RX4_57, rfl, by decide +kernel, rfl, by decide +kernel, fun _ => Or.inr trivial⟩
theorem fl_RX6_109 : zFl RX6 109 1 5 (.array (.object "EffectMachine$Expr")) false 14 := ⟨_, _, _, zcls_X1, by decide, zf_RX6_109, rfl, by decide +kernel, rfl, by decide +kernel, fun _ => Or.inr trivial⟩
theorem fl_RX1_19 : zFl RX1 19 1 6 (.array .int) false 13 := ⟨_, _, _, zcls_X1, by decide, zf_RX1_19, rfl, by decide +kernel, rfl, by decide +kernel, fun _ => Or.inr trivial⟩
theorem fl_RX6_125 : zFl RX6 125 1 6 (.array .int) false 13 := ⟨_, _, _, zcls_X1, by decide, zf_RX6_125, rfl, by decide +kernel, rfl, by decide +kernel, fun _ => Or.inr trivial⟩
theorem fl_RX6_96 : zFl RX6 96 1 7 (.object "EffectMachine$Expr") false 1 := ⟨_, _, _, zcls_X1, by decide, zf_RX6_96, rfl, by decide +kernel, rfl, by decide +kernel, fun _ => Or.inr trivial⟩
theorem fl_RX1_73 : zFl RX1 73 1 7 (.object "EffectMachine$Expr") false 1 := ⟨_, _, _, zcls_X1, by decide, zf_RX1_73, rfl, by decide +kernel, rfl, by decide +kernel, fun _ => Or.inr trivial⟩
theorem fl_RX0_21 : zFl RX0 21 1 8 .int false 99 := ⟨_, _, _, zcls_X1, by decide, zf_RX0_21, rfl, by decide +kernel, rfl, by decide +kernel, fun _ => Or.inr trivial⟩
theorem fl_RX1_27 : zFl RX1 27 1 8 .int false 99 := ⟨_, _, _, zcls_X1, by decide, zf_RX1_27, rfl, by decide +kernel, rfl, by decide +kernel, fun _ => Or.inr trivial⟩
theorem fl_RX11_91 : zFl RX11 91 1 8 .int false 99 := ⟨_, _, _, zcls_X1, by decide, zf_RX11_91, rfl, by decide +kernel, rfl, by decide +kernel, fun _ => Or.inr trivial⟩
theorem fl_RX0_27 : zFl RX0 27 1 9 .int false 99 := ⟨_, _, _, zcls_X1, by decide, zf_RX0_27, rfl, by decide +kernel, rfl, by decide +kernel, fun _ => Or.inr trivial⟩
theorem fl_RX1_30 : zFl RX1 30 1 9 .int false 99 := ⟨_, _, _, zcls_X1, by decide, zf_RX1_30, rfl, by decide +kernel, rfl, by decide +kernel, fun _ => Or.inr trivial⟩
theorem fl_RX0_13 : zFl RX0 13 0 0 (.object "EffectMachine$Expr") true 1 := ⟨_, _, _, zcls_X0, by decide, zf_RX0_13, rfl, by decide +kernel, rfl, by decide +kernel, fun _ => Or.inr trivial⟩
theorem fl_RX8_86 : zFl RX8 86 0 0 (.object "EffectMachine$Expr") true 1 := ⟨_, _, _, zcls_X0, by decide, zf_RX8_86, rfl, by decide +kernel, rfl, by decide +kernel, fun _ => Or.inr trivial⟩
theorem fl_RX11_50 : zFl RX11 50 0 0 (.object "EffectMachine$Expr") true 1 := ⟨_, _, _, zcls_X0, by decide, zf_RX11_50, rfl, by decide +kernel, rfl, by decide +kernel, fun _ => Or.inr trivial⟩
theorem fl_RX1_68 : zFl RX1 68 0 0 (.object "EffectMachine$Expr") true 1 := ⟨_, _, _, zcls_X0, by decide, zf_RX1_68, rfl, by decide +kernel, rfl, by decide +kernel, fun _ => Or.inr trivial⟩
theorem fl_RX0_17 : zFl RX0 17 0 1 (.array (.object "EffectMachine$Expr")) true 14 := ⟨_, _, _, zcls_X0, by decide, zf_RX0_17, rfl, by decide +kernel, rfl, by decide +kernel, fun _ => Or.inr trivial⟩
theorem fl_RX11_70 : zFl RX11 70 0 1 (.array (.object "EffectMachine$Expr")) true 14 := ⟨_, _, _, zcls_X0, by decide, zf_RX11_70, rfl, by decide +kernel, rfl, by decide +kernel, fun _ => Or.inr trivial⟩
theorem fl_RX0_7 : zFl RX0 7 0 2 (.array .int) false 13 := ⟨_, _, _, zcls_X0, by decide, zf_RX0_7, rfl, by decide +kernel, rfl, by decide +kernel, fun _ => Or.inr trivial⟩
theorem fl_RX11_60 : zFl RX11 60 0 2 (.array .int) false 13 := ⟨_, _, _, zcls_X0, by decide, zf_RX11_60, rfl, by decide +kernel, rfl, by decide +kernel, fun _ => Or.inr trivial⟩
theorem fl_RX2_7 : zFl RX2 7 2 0 .int true 99 := ⟨_, _, _, zcls_X2, by decide, zf_RX2_7, rfl, by decide +kernel, rfl, by decide +kernel, fun _ => Or.inr trivial⟩
theorem fl_RX5_40 : zFl RX5 40 2 0 .int true 99 := ⟨_, _, _, zcls_X2, by decide, zf_RX5_40, rfl, by decide +kernel, rfl, by decide +kernel, fun _ => Or.inr trivial⟩
theorem fl_RX8_103 : zFl RX8 103 2 0 .int true 99 := ⟨_, _, _, zcls_X2, by decide, zf_RX8_103, rfl, by decide +kernel, rfl, by decide +kernel, fun _ => Or.inr trivial⟩
theorem fl_RX10_30 : zFl RX10 30 2 0 .int true 99 := ⟨_, _, _, zcls_X2, by decide, zf_RX10_30, rfl, by decide +kernel, rfl, by decide +kernel, fun _ => Or.inr trivial⟩
theorem fl_RX11_173 : zFl RX11 173 2 0 .int true 99 := ⟨_, _, _, zcls_X2, by decide, zf_RX11_173, rfl, by decide +kernel, rfl, by decide +kernel, fun _ => Or.inr trivial⟩
theorem fl_RX2_13 : zFl RX2 13 2 1 (.object "EffectMachine$Expr") true 1 := ⟨_, _, _, zcls_X2, by decide, zf_RX2_13, rfl, by decide +kernel, rfl, by decide +kernel, fun _ => Or.inr trivial⟩
theorem fl_RX8_108 : zFl RX8 108 2 1 (.object "EffectMachine$Expr") true 1 := ⟨_, _, _, zcls_X2, by decide, zf_RX8_108, rfl, by decide +kernel, rfl, by decide +kernel, fun _ => Or.inr trivial⟩
theorem fl_RX10_33 : zFl RX10 33 2 1 (.object "EffectMachine$Expr") true 1 := ⟨_, _, _, zcls_X2, by decide, zf_RX10_33, rfl, by decide +kernel, rfl, by decide +kernel, fun _ => Or.inr trivial⟩
theorem fl_RX2_17 : zFl RX2 17 2 2 (.object "EffectMachine$Scope") true 9 := ⟨_, _, _, zcls_X2, by decide, zf_RX2_17, rfl, by decide +kernel, rfl, by decide +kernel, fun _ => Or.inr trivial⟩
theorem fl_RX8_220 : zFl RX8 220 2 2 (.object "EffectMachine$Scope") true 9 := ⟨_, _, _, zcls_X2, by decide, zf_RX8_220, rfl, by decide +kernel, rfl, by decide +kernel, fun _ => Or.inr trivial⟩
theorem fl_RX2_21 : zFl RX2 21 2 3 .int true 99 := ⟨_, _, _, zcls_X2, by decide, zf_RX2_21, rfl, by decide +kernel, rfl, by decide +kernel, fun _ => Or.inr trivial⟩
theorem fl_RX5_45 : zFl RX5 45 2 3 .int true 99 := ⟨_, _, _, zcls_X2, by decide, zf_RX5_45, rfl, by decide +kernel, rfl, by decide +kernel, fun _ => Or.inr trivial⟩
theorem fl_RX8_116 : zFl RX8 116 2 3 .int true 99 := ⟨_, _, _, zcls_X2, by decide, zf_RX8_116, rfl, by decide +kernel, rfl, by decide +kernel, fun _ => Or.inr trivial⟩
theorem fl_RX2_24 : zFl RX2 24 2 4 (.object "EffectMachine$Resumption") true 7 := ⟨_, _, _, zcls_X2, by decide, zf_RX2_24, rfl, by decide +kernel, rfl, by decide +kernel, fun _ => Or.inr trivial⟩
theorem fl_RX5_54 : zFl RX5 54 2 4 (.object "EffectMachine$Resumption") true 7 := ⟨_, _, _, zcls_X2, by decide, zf_RX5_54, rfl, by decide +kernel, rfl, by decide +kernel, fun _ => Or.inr trivial⟩
theorem fl_RX8_123 : zFl RX8 123 2 4 (.object "EffectMachine$Resumption") true 7 := ⟨_, _, _, zcls_X2, by decide, zf_RX8_123, rfl, by decide +kernel, rfl, by decide +kernel, fun _ => Or.inr trivial⟩
theorem fl_RX7_7 : zFl RX7 7 7 0 .int true 99 := ⟨_, _, _, zcls_X7, by decide, zf_RX7_7, rfl, by decide +kernel, rfl, by decide +kernel, fun _ => Or.inr trivial⟩
theorem fl_RX5_62 : zFl RX5 62 7 0 .int true 99 := ⟨_, _, _, zcls_X7, by decide, zf_RX5_62, rfl, by decide +kernel, rfl, by decide +kernel, fun _ => Or.inr trivial⟩
theorem fl_RX3_55 : zFl RX3 55 7 0 .int true 99 := ⟨_, _, _, zcls_X7, by decide, zf_RX3_55, rfl, by decide +kernel, rfl, by decide +kernel, fun _ => Or.inr trivial⟩
theorem fl_RX7_13 : zFl RX7 13 7 1 (.array (.object "EffectMachine$Frame")) true 15 := ⟨_, _, _, zcls_X7, by decide, zf_RX7_13, rfl, by decide +kernel, rfl, by decide +kernel, fun _ => Or.inr trivial⟩
theorem fl_RX5_36 : zFl RX5 36 7 1 (.array (.object "EffectMachine$Frame")) true 15 := ⟨_, _, _, zcls_X7, by decide, zf_RX5_36, rfl, by decide +kernel, rfl, by decide +kernel, fun _ => Or.inr trivial⟩
theorem fl_RX8_270 : zFl RX8 270 7 1 (.array (.object "EffectMachine$Frame")) true 15 := ⟨_, _, _, zcls_X7, by decide, zf_RX8_270, rfl, by decide +kernel, rfl, by decide +kernel, fun _ => Or.inr trivial⟩
theorem fl_RX9_7 : zFl RX9 7 9 0 .int true 99 := ⟨_, _, _, zcls_X9, by decide, zf_RX9_7, rfl, by decide +kernel, rfl, by decide +kernel, fun _ => Or.inr trivial⟩
theorem fl_RX9_13 : zFl RX9 13 9 1 .int true 99 := ⟨_, _, _, zcls_X9, by decide, zf_RX9_13, rfl, by decide +kernel, rfl, by decide +kernel, fun _ => Or.inr trivial⟩
theorem fl_RX9_16 : zFl RX9 16 9 2 (.object "EffectMachine$Resumption") true 7 := ⟨_, _, _, zcls_X9, by decide, zf_RX9_16, rfl, by decide +kernel, rfl, by decide +kernel, fun _ => Or.inr trivial⟩
theorem fl_RX9_20 : zFl RX9 20 9 3 (.object "EffectMachine$Scope") true 9 := ⟨_, _, _, zcls_X9, by decide, zf_RX9_20, rfl, by decide +kernel, rfl, by decide +kernel, fun _ => Or.inr trivial⟩
theorem zmd_X11_init : zMd mX11_init 0 := zmdof zcd_X11_init zini_RX11 (by decide +kernel)
theorem zmd_X6_init : zMd mX6_init 0 := zmdof zcd_X6_init zini_RX6 (by decide +kernel)
theorem zmd_X4_init : zMd mX4_init 0 := zmdof zcd_X4_init zini_RX4 (by decide +kernel)
theorem zmd_X8_init : zMd mX8_init 0 := zmdof zcd_X8_init zini_RX8 (by decide +kernel)
theorem zmd_X10_init : zMd mX10_init 0 := zmdof zcd_X10_init zini_RX10 (by decide +kernel)
theorem zmd_X3_init : zMd mX3_init 0 := zmdof zcd_X3_init zini_RX3 (by decide +kernel)
theorem zmd_X5_init : zMd mX5_init 0 := zmdof zcd_X5_init zini_RX5 (by decide +kernel)
theorem zmd_X11_fault : zMd mX11_fault 1 := zmdof zcd_X11_fault zini_RX11 (by decide +kernel)
theorem zmd_X6_read : zMd mX6_read 3 := zmdof zcd_X6_read zini_RX6 (by decide +kernel)
theorem zmd_X11_isDigit : zMd mX11_isDigit 1 := zmdof zcd_X11_isDigit zini_RX11 (by decide +kernel)
theorem zmd_X6_addDigit : zMd mX6_addDigit 1 := zmdof zcd_X6_addDigit zini_RX6 (by decide +kernel)
theorem zmd_X6_accept : zMd mX6_accept 1 := zmdof zcd_X6_accept zini_RX6 (by decide +kernel)
theorem zmd_X6_acceptExpression : zMd mX6_acceptExpression 1 := zmdof zcd_X6_acceptExpression zini_RX6 (by decide +kernel)
theorem zmd_X6_addLeaf : zMd mX6_addLeaf 2 := zmdof zcd_X6_addLeaf zini_RX6 (by decide +kernel)
theorem zmd_X6_addExpression : zMd mX6_addExpression 1 := zmdof zcd_X6_addExpression zini_RX6 (by decide +kernel)
theorem zmd_X1_init : zMd mX1_init 1 := zmdof zcd_X1_init zini_RX1 (by decide +kernel)
theorem zmd_X6_attach : zMd mX6_attach 2 := zmdof zcd_X6_attach zini_RX6 (by decide +kernel)
theorem zmd_X6_endPart : zMd mX6_endPart 0 := zmdof zcd_X6_endPart zini_RX6 (by decide +kernel)
theorem zmd_X1_parts : zMd mX1_parts 0 := zmdof zcd_X1_parts zini_RX1 (by decide +kernel)
theorem zmd_X11_isLetter : zMd mX11_isLetter 1 := zmdof zcd_X11_isLetter zini_RX11 (by decide +kernel)
theorem zmd_X6_beginExpression : zMd mX6_beginExpression 2 := zmdof zcd_X6_beginExpression zini_RX6 (by decide +kernel)
theorem zmd_X6_acceptVariable : zMd mX6_acceptVariable 1 := zmdof zcd_X6_acceptVariable zini_RX6 (by decide +kernel)
theorem zmd_X6_acceptMark : zMd mX6_acceptMark 3 := zmdof zcd_X6_acceptMark zini_RX6 (by decide +kernel)
theorem zmd_X6_acceptClause : zMd mX6_acceptClause 1 := zmdof zcd_X6_acceptClause zini_RX6 (by decide +kernel)
theorem zmd_X11_isOperation : zMd mX11_isOperation 1 := zmdof zcd_X11_isOperation zini_RX11 (by decide +kernel)
theorem zmd_X1_clause : zMd mX1_clause 1 := zmdof zcd_X1_clause zini_RX1 (by decide +kernel)
theorem zmd_X11_load : zMd mX11_load 0 := zmdof zcd_X11_load zini_RX11 (by decide +kernel)
theorem zmd_X6_body : zMd mX6_body 0 := zmdof zcd_X6_body zini_RX6 (by decide +kernel)
theorem zmd_X0_init : zMd mX0_init 2 := zmdof zcd_X0_init zini_RX0 (by decide +kernel)
theorem zmd_X4_list : zMd mX4_list 1 := zmdof zcd_X4_list zini_RX4 (by decide +kernel)
theorem zmd_X4_plan : zMd mX4_plan 2 := zmdof zcd_X4_plan zini_RX4 (by decide +kernel)
theorem zmd_X4_put : zMd mX4_put 1 := zmdof zcd_X4_put zini_RX4 (by decide +kernel)
theorem zmd_X4_putHead : zMd mX4_putHead 1 := zmdof zcd_X4_putHead zini_RX4 (by decide +kernel)
theorem zmd_X4_putNumber : zMd mX4_putNumber 1 := zmdof zcd_X4_putNumber zini_RX4 (by decide +kernel)
theorem zmd_X4_planParts : zMd mX4_planParts 1 := zmdof zcd_X4_planParts zini_RX4 (by decide +kernel)
theorem zmd_X4_planClause : zMd mX4_planClause 2 := zmdof zcd_X4_planClause zini_RX4 (by decide +kernel)
theorem zmd_X1_clauseVariable : zMd mX1_clauseVariable 1 := zmdof zcd_X1_clauseVariable zini_RX1 (by decide +kernel)
theorem zmd_X4_planPart : zMd mX4_planPart 1 := zmdof zcd_X4_planPart zini_RX4 (by decide +kernel)
theorem zmd_J7_copyOf_59c91 : zMd mJ7_copyOf_59c91 2 := zmdof zcd_J7_copyOf_59c91 zini_RJ7 (by decide +kernel)
theorem zmd_X8_begin : zMd mX8_begin 0 := zmdof zcd_X8_begin zini_RX8 (by decide +kernel)
theorem zmd_X8_goTo : zMd mX8_goTo 2 := zmdof zcd_X8_goTo zini_RX8 (by decide +kernel)
theorem zmd_X10_clear : zMd mX10_clear 0 := zmdof zcd_X10_clear zini_RX10 (by decide +kernel)
theorem zmd_X3_clear : zMd mX3_clear 0 := zmdof zcd_X3_clear zini_RX3 (by decide +kernel)
theorem zmd_J7_fill_53178 : zMd mJ7_fill_53178 2 := zmdof zcd_J7_fill_53178 zini_RJ7 (by decide +kernel)
theorem zmd_X11_restart : zMd mX11_restart 0 := zmdof zcd_X11_restart zini_RX11 (by decide +kernel)
theorem zmd_X11_run : zMd mX11_run 1 := zmdof zcd_X11_run zini_RX11 (by decide +kernel)
theorem zmd_X8_step : zMd mX8_step 0 := zmdof zcd_X8_step zini_RX8 (by decide +kernel)
theorem zmd_X8_stepInto : zMd mX8_stepInto 1 := zmdof zcd_X8_stepInto zini_RX8 (by decide +kernel)
theorem zmd_X9_lookUp : zMd mX9_lookUp 2 := zmdof zcd_X9_lookUp zini_RX9 (by decide +kernel)
theorem zmd_X10_hasRoomFor : zMd mX10_hasRoomFor 1 := zmdof zcd_X10_hasRoomFor zini_RX10 (by decide +kernel)
theorem zmd_X1_kindOfFrame : zMd mX1_kindOfFrame 0 := zmdof zcd_X1_kindOfFrame zini_RX1 (by decide +kernel)
theorem zmd_X3_newFinalizer : zMd mX3_newFinalizer 0 := zmdof zcd_X3_newFinalizer zini_RX3 (by decide +kernel)
theorem zmd_X3_isPlace : zMd mX3_isPlace 1 := zmdof zcd_X3_isPlace zini_RX3 (by decide +kernel)
theorem zmd_X9_resumptionIn : zMd mX9_resumptionIn 1 := zmdof zcd_X9_resumptionIn zini_RX9 (by decide +kernel)
theorem zmd_X2_init : zMd mX2_init 5 := zmdof zcd_X2_init zini_RX2 (by decide +kernel)
theorem zmd_X10_push : zMd mX10_push 1 := zmdof zcd_X10_push zini_RX10 (by decide +kernel)
theorem zmd_X10_below : zMd mX10_below 1 := zmdof zcd_X10_below zini_RX10 (by decide +kernel)
theorem zmd_X8_stepOut : zMd mX8_stepOut 1 := zmdof zcd_X8_stepOut zini_RX8 (by decide +kernel)
theorem zmd_X8_resume : zMd mX8_resume 1 := zmdof zcd_X8_resume zini_RX8 (by decide +kernel)
theorem zmd_X10_pop : zMd mX10_pop 0 := zmdof zcd_X10_pop zini_RX10 (by decide +kernel)
theorem zmd_X3_use : zMd mX3_use 1 := zmdof zcd_X3_use zini_RX3 (by decide +kernel)
theorem zmd_X8_leaveClause : zMd mX8_leaveClause 1 := zmdof zcd_X8_leaveClause zini_RX8 (by decide +kernel)
theorem zmd_X5_first : zMd mX5_first 2 := zmdof zcd_X5_first zini_RX5 (by decide +kernel)
theorem zmd_X5_visit : zMd mX5_visit 2 := zmdof zcd_X5_visit zini_RX5 (by decide +kernel)
theorem zmd_X3_usesOf : zMd mX3_usesOf 1 := zmdof zcd_X3_usesOf zini_RX3 (by decide +kernel)
theorem zmd_X3_executed : zMd mX3_executed 1 := zmdof zcd_X3_executed zini_RX3 (by decide +kernel)
theorem zmd_X8_execute : zMd mX8_execute 1 := zmdof zcd_X8_execute zini_RX8 (by decide +kernel)
theorem zmd_X3_execute : zMd mX3_execute 1 := zmdof zcd_X3_execute zini_RX3 (by decide +kernel)
theorem zmd_X8_perform : zMd mX8_perform 1 := zmdof zcd_X8_perform zini_RX8 (by decide +kernel)
theorem zmd_X10_placeOfHandler : zMd mX10_placeOfHandler 1 := zmdof zcd_X10_placeOfHandler zini_RX10 (by decide +kernel)
theorem zmd_X8_captureDownTo : zMd mX8_captureDownTo 1 := zmdof zcd_X8_captureDownTo zini_RX8 (by decide +kernel)
theorem zmd_X10_popDownTo : zMd mX10_popDownTo 1 := zmdof zcd_X10_popDownTo zini_RX10 (by decide +kernel)
theorem zmd_X3_newResumption : zMd mX3_newResumption 1 := zmdof zcd_X3_newResumption zini_RX3 (by decide +kernel)
theorem zmd_X7_init : zMd mX7_init 2 := zmdof zcd_X7_init zini_RX7 (by decide +kernel)
theorem zmd_X9_init : zMd mX9_init 4 := zmdof zcd_X9_init zini_RX9 (by decide +kernel)
theorem zmd_X8_goOnAt : zMd mX8_goOnAt 2 := zmdof zcd_X8_goOnAt zini_RX8 (by decide +kernel)
theorem zmd_X8_resultOf : zMd mX8_resultOf 3 := zmdof zcd_X8_resultOf zini_RX8 (by decide +kernel)
theorem zmd_X8_emit : zMd mX8_emit 0 := zmdof zcd_X8_emit zini_RX8 (by decide +kernel)
theorem zmd_X8_call : zMd mX8_call 1 := zmdof zcd_X8_call zini_RX8 (by decide +kernel)
theorem zmd_X11_isProcedure : zMd mX11_isProcedure 1 := zmdof zcd_X11_isProcedure zini_RX11 (by decide +kernel)
theorem zmd_X8_leaveHandler : zMd mX8_leaveHandler 2 := zmdof zcd_X8_leaveHandler zini_RX8 (by decide +kernel)
theorem zmd_X8_endIfDue : zMd mX8_endIfDue 0 := zmdof zcd_X8_endIfDue zini_RX8 (by decide +kernel)
theorem zmd_X11_answer : zMd mX11_answer 1 := zmdof zcd_X11_answer zini_RX11 (by decide +kernel)
theorem zmd_X8_goOnWith : zMd mX8_goOnWith 1 := zmdof zcd_X8_goOnWith zini_RX8 (by decide +kernel)
theorem zmd_X11_drop : zMd mX11_drop 1 := zmdof zcd_X11_drop zini_RX11 (by decide +kernel)
theorem zmd_X11_told : zMd mX11_told 1 := zmdof zcd_X11_told zini_RX11 (by decide +kernel)
theorem zmd_X8_countPerformed : zMd mX8_countPerformed 0 := zmdof zcd_X8_countPerformed zini_RX8 (by decide +kernel)
theorem zmd_X8_countDefined : zMd mX8_countDefined 0 := zmdof zcd_X8_countDefined zini_RX8 (by decide +kernel)
theorem zmd_X11_keep : zMd mX11_keep 1 := zmdof zcd_X11_keep zini_RX11 (by decide +kernel)
theorem zmd_X11_isImage : zMd mX11_isImage 1 := zmdof zcd_X11_isImage zini_RX11 (by decide +kernel)
theorem zmd_X8_copyFrom : zMd mX8_copyFrom 1 := zmdof zcd_X8_copyFrom zini_RX8 (by decide +kernel)
theorem zmd_X10_copyFrom : zMd mX10_copyFrom 1 := zmdof zcd_X10_copyFrom zini_RX10 (by decide +kernel)
theorem zmd_X3_copyFrom : zMd mX3_copyFrom 1 := zmdof zcd_X3_copyFrom zini_RX3 (by decide +kernel)
theorem zmd_X11_back : zMd mX11_back 1 := zmdof zcd_X11_back zini_RX11 (by decide +kernel)
theorem zmd_L_cell : zMd mL_cell 2 := zmdof zcd_L_cell zini_RL (by decide +kernel)
theorem zmd_L_low : zMd mL_low 2 := zmdof zcd_L_low zini_RL (by decide +kernel)
theorem zmd_L_writeOne : zMd mL_writeOne 5 := zmdof zcd_L_writeOne zini_RL (by decide +kernel)
theorem zmd_X11_wipe : zMd mX11_wipe 0 := zmdof zcd_X11_wipe zini_RX11 (by decide +kernel)
theorem zmd_L_sign : zMd mL_sign 2 := zmdof zcd_L_sign zini_RL (by decide +kernel)
theorem zmd_X11_write : zMd mX11_write 1 := zmdof zcd_X11_write zini_RX11 (by decide +kernel)
theorem zmd_L_begin : zMd mL_begin 7 := zmdof zcd_L_begin zini_RL (by decide +kernel)
theorem zmd_L_blank : zMd mL_blank 2 := zmdof zcd_L_blank zini_RL (by decide +kernel)
theorem zmd_L_isSound : zMd mL_isSound 1 := zmdof zcd_L_isSound zini_RL (by decide +kernel)
theorem zmd_X11_performed : zMd mX11_performed 1 := zmdof zcd_X11_performed zini_RX11 (by decide +kernel)
theorem zmd_X11_handler : zMd mX11_handler 1 := zmdof zcd_X11_handler zini_RX11 (by decide +kernel)
theorem zmd_X11_frame : zMd mX11_frame 2 := zmdof zcd_X11_frame zini_RX11 (by decide +kernel)
theorem zmd_X8_propertyOf : zMd mX8_propertyOf 1 := zmdof zcd_X8_propertyOf zini_RX8 (by decide +kernel)
theorem zmd_X1_countOperationClauses : zMd mX1_countOperationClauses 0 := zmdof zcd_X1_countOperationClauses zini_RX1 (by decide +kernel)
theorem zmd_X11_focus : zMd mX11_focus 0 := zmdof zcd_X11_focus zini_RX11 (by decide +kernel)
theorem zmd_X11_trace : zMd mX11_trace 1 := zmdof zcd_X11_trace zini_RX11 (by decide +kernel)
theorem zmd_L_areAlike : zMd mL_areAlike 2 := zmdof zcd_L_areAlike zini_RL (by decide +kernel)
theorem zmd_X11_value : zMd mX11_value 0 := zmdof zcd_X11_value zini_RX11 (by decide +kernel)
theorem zmd_L_wasTold : zMd mL_wasTold 1 := zmdof zcd_L_wasTold zini_RL (by decide +kernel)
theorem zmd_X11_may : zMd mX11_may 3 := zmdof zcd_X11_may zini_RX11 (by decide +kernel)
theorem zmd_X8_gatherLeaves : zMd mX8_gatherLeaves 0 := zmdof zcd_X8_gatherLeaves zini_RX8 (by decide +kernel)
theorem zmd_X0_forgetLeaves : zMd mX0_forgetLeaves 0 := zmdof zcd_X0_forgetLeaves zini_RX0 (by decide +kernel)
theorem zmd_X0_gatherRound : zMd mX0_gatherRound 1 := zmdof zcd_X0_gatherRound zini_RX0 (by decide +kernel)
theorem zmd_X1_gather : zMd mX1_gather 1 := zmdof zcd_X1_gather zini_RX1 (by decide +kernel)
theorem zmd_X1_leavesOf : zMd mX1_leavesOf 1 := zmdof zcd_X1_leavesOf zini_RX1 (by decide +kernel)
theorem zmd_X1_lateOf : zMd mX1_lateOf 1 := zmdof zcd_X1_lateOf zini_RX1 (by decide +kernel)
theorem zmd_X1_pair : zMd mX1_pair 2 := zmdof zcd_X1_pair zini_RX1 (by decide +kernel)
theorem zmd_X1_raised : zMd mX1_raised 2 := zmdof zcd_X1_raised zini_RX1 (by decide +kernel)
theorem zmd_X1_allLevels : zMd mX1_allLevels 1 := zmdof zcd_X1_allLevels zini_RX1 (by decide +kernel)
theorem zmd_X1_leavesOfHandler : zMd mX1_leavesOfHandler 0 := zmdof zcd_X1_leavesOfHandler zini_RX1 (by decide +kernel)
theorem zmd_X1_lowered : zMd mX1_lowered 2 := zmdof zcd_X1_lowered zini_RX1 (by decide +kernel)
theorem zmd_X1_lateOfClauses : zMd mX1_lateOfClauses 0 := zmdof zcd_X1_lateOfClauses zini_RX1 (by decide +kernel)
theorem zmd_L_defines : zMd mL_defines 5 := zmdof zcd_L_defines zini_RL (by decide +kernel)
theorem zmd_X11_define : zMd mX11_define 1 := zmdof zcd_X11_define zini_RX11 (by decide +kernel)
