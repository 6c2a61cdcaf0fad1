/-! Locals 7 to 12; the script. -/
section ZLOC
variable {l : Launch} {d : Nat} {D : zD} {b0 : Nat} {mi : zMI} {cs ns pc : Nat} {L : List (Option Value)} {st rest : List Value} {g : zG} {f : zI} {Q : Nat → Nat → zKT → Prop}
theorem z_iload7 {v0 v1 v2 v3 v4 v5 v6 : Option Value} {t : List (Option Value)} {x : Int32} (hd : decode mi.2.1 pc = .ok (.iload 7, 2)) (k : zS l d D b0 mi cs ns (pc + 2) (v0 :: v1 :: v2 :: v3 :: v4 :: v5 :: v6 :: some (.int x) :: t) (.int x :: st) g f Q) : zS l d D b0 mi cs ns pc (v0 :: v1 :: v2 :: v3 :: v4 :: v5 :: v6 :: some (.int x) :: t) st g f Q :=
  zS.go (fun p e R s m args below meth c H locs ls Qw C hR hc1 hc2 hL kk => lv_iload (i := 7) C.1 C.2.1 hd (hL.at_ rfl) (kk ls hL)) k
theorem z_istore7 {v0 v1 v2 v3 v4 v5 v6 : Option Value} {v : Option Value} {t : List (Option Value)} {x : Int32} (hd : decode mi.2.1 pc = .ok (.istore 7, 2)) (k : zS l d D b0 mi cs ns (pc + 2) (v0 :: v1 :: v2 :: v3 :: v4 :: v5 :: v6 :: some (.int x) :: t) st g f Q) : zS l d D b0 mi cs ns pc (v0 :: v1 :: v2 :: v3 :: v4 :: v5 :: v6 :: v :: t) (.int x :: st) g f Q :=
  zS.go (fun p e R s m args below meth c H locs ls Qw C hR hc1 hc2 hL kk => lv_istore (i := 7) C.1 C.2.1 hd hL.lv (by simp) rfl (fun ls' h' => kk ls' (hL.put (by simp) rfl h'))) k
theorem z_iinc7 {v0 v1 v2 v3 v4 v5 v6 : Option Value} {t : List (Option Value)} {x : Int32} {n : Int} {y : Int32} (hd : decode mi.2.1 pc = .ok (.iinc 7 n, 3)) (hy : Int32.ofInt n = y) (k : zS l d D b0 mi cs ns (pc + 3) (v0 :: v1 :: v2 :: v3 :: v4 :: v5 :: v6 :: some (.int (x + y)) :: t) st g f Q) : zS l d D b0 mi cs ns pc (v0 :: v1 :: v2 :: v3 :: v4 :: v5 :: v6 :: some (.int x) :: t) st g f Q := by
  subst hy
  refine zS.go (fun p e R s m args below meth c H locs ls Qw C hR hc1 hc2 hL kk => ?_) k
  obtain ⟨j, hj⟩ := List.getElem?_of_mem (zpr_of (L := v0 :: v1 :: v2 :: v3 :: v4 :: v5 :: v6 :: some (.int x) :: t) (i := 7) (v := .int x) rfl)
  exact lv_iinc (i := 7) C.1 C.2.1 hd hL.lv hj rfl (by simp) rfl (fun ls' h' => kk ls' (hL.put (by simp) rfl h'))
theorem z_iload8 {v0 v1 v2 v3 v4 v5 v6 v7 : Option Value} {t : List (Option Value)} {x : Int32} (hd : decode mi.2.1 pc = .ok (.iload 8, 2)) (k : zS l d D b0 mi cs ns (pc + 2) (v0 :: v1 :: v2 :: v3 :: v4 :: v5 :: v6 :: v7 :: some (.int x) :: t) (.int x :: st) g f Q) : zS l d D b0 mi cs ns pc (v0 :: v1 :: v2 :: v3 :: v4 :: v5 :: v6 :: v7 :: some (.int x) :: t) st g f Q :=
  zS.go (fun p e R s m args below meth c H locs ls Qw C hR hc1 hc2 hL kk => lv_iload (i := 8) C.1 C.2.1 hd (hL.at_ rfl) (kk ls hL)) k
theorem z_istore8 {v0 v1 v2 v3 v4 v5 v6 v7 : Option Value} {v : Option Value} {t : List (Option Value)} {x : Int32} (hd : decode mi.2.1 pc = .ok (.istore 8, 2)) (k : zS l d D b0 mi cs ns (pc + 2) (v0 :: v1 :: v2 :: v3 :: v4 :: v5 :: v6 :: v7 :: some (.int x) :: t) st g f Q) : zS l d D b0 mi cs ns pc (v0 :: v1 :: v2 :: v3 :: v4 :: v5 :: v6 :: v7 :: v :: t) (.int x :: st) g f Q :=
  zS.go (fun p e R s m args below meth c H locs ls Qw C hR hc1 hc2 hL kk => lv_istore (i := 8) C.1 C.2.1 hd hL.lv (by simp) rfl (fun ls' h' => kk ls' (hL.put (by simp) rfl h'))) k
theorem z_iinc8 {v0 v1 v2 v3 v4 v5 v6 v7 : Option Value} {t : List (Option Value)} {x : Int32} {n : Int} {y : Int32} (hd : decode mi.2.1 pc = .ok (.iinc 8 n, 3)) (hy : Int32.ofInt n = y) (k : zS l d D b0 mi cs ns (pc + 3) (v0 :: v1 :: v2 :: v3 :: v4 :: v5 :: v6 :: v7 :: some (.int (x + y)) :: t) st g f Q) : zS l d D b0 mi cs ns pc (v0 :: v1 :: v2 :: v3 :: v4 :: v5 :: v6 :: v7 :: some (.int x) :: t) st g f Q := by
  subst hy
  refine zS.go (fun p e R s m args below meth c H locs ls Qw C hR hc1 hc2 hL kk => ?_) k
  obtain ⟨j, hj⟩ := List.getElem?_of_mem (zpr_of (L := v0 :: v1 :: v2 :: v3 :: v4 :: v5 :: v6 :: v7 :: some (.int x) :: t) (i := 8) (v := .int x) rfl)
  exact lv_iinc (i := 8) C.1 C.2.1 hd hL.lv hj rfl (by simp) rfl (fun ls' h' => kk ls' (hL.put (by simp) rfl h'))
theorem z_iload9 {v0 v1 v2 v3 v4 v5 v6 v7 v8 : Option Value} {t : List (Option Value)} {x : Int32} (hd : decode mi.2.1 pc = .ok (.iload 9, 2)) (k : zS l d D b0 mi cs ns (pc + 2) (v0 :: v1 :: v2 :: v3 :: v4 :: v5 :: v6 :: v7 :: v8 :: some (.int x) :: t) (.int x :: st) g f Q) : zS l d D b0 mi cs ns pc (v0 :: v1 :: v2 :: v3 :: v4 :: v5 :: v6 :: v7 :: v8 :: some (.int x) :: t) st g f Q :=
  zS.go (fun p e R s m args below meth c H locs ls Qw C hR hc1 hc2 hL kk => lv_iload (i := 9) C.1 C.2.1 hd (hL.at_ rfl) (kk ls hL)) k
theorem z_istore9 {v0 v1 v2 v3 v4 v5 v6 v7 v8 : Option Value} {v : Option Value} {t : List (Option Value)} {x : Int32} (hd : decode mi.2.1 pc = .ok (.istore 9, 2)) (k : zS l d D b0 mi cs ns (pc + 2) (v0 :: v1 :: v2 :: v3 :: v4 :: v5 :: v6 :: v7 :: v8 :: some (.int x) :: t) st g f Q) : zS l d D b0 mi cs ns pc (v0 :: v1 :: v2 :: v3 :: v4 :: v5 :: v6 :: v7 :: v8 :: v :: t) (.int x :: st) g f Q :=
  zS.go (fun p e R s m args below meth c H locs ls Qw C hR hc1 hc2 hL kk => lv_istore (i := 9) C.1 C.2.1 hd hL.lv (by simp) rfl (fun ls' h' => kk ls' (hL.put (by simp) rfl h'))) k
theorem z_iinc9 {v0 v1 v2 v3 v4 v5 v6 v7 v8 : Option Value} {t : List (Option Value)} {x : Int32} {n : Int} {y : Int32} (hd : decode mi.2.1 pc = .ok (.iinc 9 n, 3)) (hy : Int32.ofInt n = y) (k : zS l d D b0 mi cs ns (pc + 3) (v0 :: v1 :: v2 :: v3 :: v4 :: v5 :: v6 :: v7 :: v8 :: some (.int (x + y)) :: t) st g f Q) : zS l d D b0 mi cs ns pc (v0 :: v1 :: v2 :: v3 :: v4 :: v5 :: v6 :: v7 :: v8 :: some (.int x) :: t) st g f Q := by
  subst hy
  refine zS.go (fun p e R s m args below meth c H locs ls Qw C hR hc1 hc2 hL kk => ?_) k
  obtain ⟨j, hj⟩ := List.getElem?_of_mem (zpr_of (L := v0 :: v1 :: v2 :: v3 :: v4 :: v5 :: v6 :: v7 :: v8 :: some (.int x) :: t) (i := 9) (v := .int x) rfl)
  exact lv_iinc (i := 9) C.1 C.2.1 hd hL.lv hj rfl (by simp) rfl (fun ls' h' => kk ls' (hL.put (by simp) rfl h'))
theorem z_iload10 {v0 v1 v2 v3 v4 v5 v6 v7 v8 v9 : Option Value} {t : List (Option Value)} {x : Int32} (hd : decode mi.2.1 pc = .ok (.iload 10, 2)) (k : zS l d D b0 mi cs ns (pc + 2) (v0 :: v1 :: v2 :: v3 :: v4 :: v5 :: v6 :: v7 :: v8 :: v9 :: some (.int x) :: t) (.int x :: st) g f Q) : zS l d D b0 mi cs ns pc (v0 :: v1 :: v2 :: v3 :: v4 :: v5 :: v6 :: v7 :: v8 :: v9 :: some (.int x) :: t) st g f Q :=
  zS.go (fun p e R s m args below meth c H locs ls Qw C hR hc1 hc2 hL kk => lv_iload (i := 10) C.1 C.2.1 hd (hL.at_ rfl) (kk ls hL)) k
theorem z_istore10 {v0 v1 v2 v3 v4 v5 v6 v7 v8 v9 : Option Value} {v : Option Value} {t : List (Option Value)} {x : Int32} (hd : decode mi.2.1 pc = .ok (.istore 10, 2)) (k : zS l d D b0 mi cs ns (pc + 2) (v0 :: v1 :: v2 :: v3 :: v4 :: v5 :: v6 :: v7 :: v8 :: v9 :: some (.int x) :: t) st g f Q) : zS l d D b0 mi cs ns pc (v0 :: v1 :: v2 :: v3 :: v4 :: v5 :: v6 :: v7 :: v8 :: v9 :: v :: t) (.int x :: st) g f Q :=
  zS.go (fun p e R s m args below meth c H locs ls Qw C hR hc1 hc2 hL kk => lv_istore (i := 10) C.1 C.2.1 hd hL.lv (by simp) rfl (fun ls' h' => kk ls' (hL.put (by simp) rfl h'))) k
theorem z_iinc10 {v0 v1 v2 v3 v4 v5 v6 v7 v8 v9 : Option Value} {t : List (Option Value)} {x : Int32} {n : Int} {y : Int32} (hd : decode mi.2.1 pc = .ok (.iinc 10 n, 3)) (hy : Int32.ofInt n = y) (k : zS l d D b0 mi cs ns (pc + 3) (v0 :: v1 :: v2 :: v3 :: v4 :: v5 :: v6 :: v7 :: v8 :: v9 :: some (.int (x + y)) :: t) st g f Q) : zS l d D b0 mi cs ns pc (v0 :: v1 :: v2 :: v3 :: v4 :: v5 :: v6 :: v7 :: v8 :: v9 :: some (.int x) :: t) st g f Q := by
  subst hy
  refine zS.go (fun p e R s m args below meth c H locs ls Qw C hR hc1 hc2 hL kk => ?_) k
  obtain ⟨j, hj⟩ := List.getElem?_of_mem (zpr_of (L := v0 :: v1 :: v2 :: v3 :: v4 :: v5 :: v6 :: v7 :: v8 :: v9 :: some (.int x) :: t) (i := 10) (v := .int x) rfl)
  exact lv_iinc (i := 10) C.1 C.2.1 hd hL.lv hj rfl (by simp) rfl (fun ls' h' => kk ls' (hL.put (by simp) rfl h'))
theorem z_iload11 {v0 v1 v2 v3 v4 v5 v6 v7 v8 v9 v10 : Option Value} {t : List (Option Value)} {x : Int32} (hd : decode mi.2.1 pc = .ok (.iload 11, 2)) (k : zS l d D b0 mi cs ns (pc + 2) (v0 :: v1 :: v2 :: v3 :: v4 :: v5 :: v6 :: v7 :: v8 :: v9 :: v10 :: some (.int x) :: t) (.int x :: st) g f Q) : zS l d D b0 mi cs ns pc (v0 :: v1 :: v2 :: v3 :: v4 :: v5 :: v6 :: v7 :: v8 :: v9 :: v10 :: some (.int x) :: t) st g f Q :=
  zS.go (fun p e R s m args below meth c H locs ls Qw C hR hc1 hc2 hL kk => lv_iload (i := 11) C.1 C.2.1 hd (hL.at_ rfl) (kk ls hL)) k
theorem z_istore11 {v0 v1 v2 v3 v4 v5 v6 v7 v8 v9 v10 : Option Value} {v : Option Value} {t : List (Option Value)} {x : Int32} (hd : decode mi.2.1 pc = .ok (.istore 11, 2)) (k : zS l d D b0 mi cs ns (pc + 2) (v0 :: v1 :: v2 :: v3 :: v4 :: v5 :: v6 :: v7 :: v8 :: v9 :: v10 :: some (.int x) :: t) st g f Q) : zS l d D b0 mi cs ns pc (v0 :: v1 :: v2 :: v3 :: v4 :: v5 :: v6 :: v7 :: v8 :: v9 :: v10 :: v :: t) (.int x :: st) g f Q :=
  zS.go (fun p e R s m args below meth c H locs ls Qw C hR hc1 hc2 hL kk => lv_istore (i := 11) C.1 C.2.1 hd hL.lv (by simp) rfl (fun ls' h' => kk ls' (hL.put (by simp) rfl h'))) k
theorem z_iinc11 {v0 v1 v2 v3 v4 v5 v6 v7 v8 v9 v10 : Option Value} {t : List (Option Value)} {x : Int32} {n : Int} {y : Int32} (hd : decode mi.2.1 pc = .ok (.iinc 11 n, 3)) (hy : Int32.ofInt n = y) (k : zS l d D b0 mi cs ns (pc + 3) (v0 :: v1 :: v2 :: v3 :: v4 :: v5 :: v6 :: v7 :: v8 :: v9 :: v10 :: some (.int (x + y)) :: t) st g f Q) : zS l d D b0 mi cs ns pc (v0 :: v1 :: v2 :: v3 :: v4 :: v5 :: v6 :: v7 :: v8 :: v9 :: v10 :: some (.int x) :: t) st g f Q := by
  subst hy
  refine zS.go (fun p e R s m args below meth c H locs ls Qw C hR hc1 hc2 hL kk => ?_) k
  obtain ⟨j, hj⟩ := List.getElem?_of_mem (zpr_of (L := v0 :: v1 :: v2 :: v3 :: v4 :: v5 :: v6 :: v7 :: v8 :: v9 :: v10 :: some (.int x) :: t) (i := 11) (v := .int x) rfl)
  exact lv_iinc (i := 11) C.1 C.2.1 hd hL.lv hj rfl (by simp) rfl (fun ls' h' => kk ls' (hL.put (by simp) rfl h'))
theorem z_iload12 {v0 v1 v2 v3 v4 v5 v6 v7 v8 v9 v10 v11 : Option Value} {t : List (Option Value)} {x : Int32} (hd : decode mi.2.1 pc = .ok (.iload 12, 2)) (k : zS l d D b0 mi cs ns (pc + 2) (v0 :: v1 :: v2 :: v3 :: v4 :: v5 :: v6 :: v7 :: v8 :: v9 :: v10 :: v11 :: some (.int x) :: t) (.int x :: st) g f Q) : zS l d D b0 mi cs ns pc (v0 :: v1 :: v2 :: v3 :: v4 :: v5 :: v6 :: v7 :: v8 :: v9 :: v10 :: v11 :: some (.int x) :: t) st g f Q :=
  zS.go (fun p e R s m args below meth c H locs ls Qw C hR hc1 hc2 hL kk => lv_iload (i := 12) C.1 C.2.1 hd (hL.at_ rfl) (kk ls hL)) k
theorem z_istore12 {v0 v1 v2 v3 v4 v5 v6 v7 v8 v9 v10 v11 : Option Value} {v : Option Value} {t : List (Option Value)} {x : Int32} (hd : decode mi.2.1 pc = .ok (.istore 12, 2)) (k : zS l d D b0 mi cs ns (pc + 2) (v0 :: v1 :: v2 :: v3 :: v4 :: v5 :: v6 :: v7 :: v8 :: v9 :: v10 :: v11 :: some (.int x) :: t) st g f Q) : zS l d D b0 mi cs ns pc (v0 :: v1 :: v2 :: v3 :: v4 :: v5 :: v6 :: v7 :: v8 :: v9 :: v10 :: v11 :: v :: t) (.int x :: st) g f Q :=
  zS.go (fun p e R s m args below meth c H locs ls Qw C hR hc1 hc2 hL kk => lv_istore (i := 12) C.1 C.2.1 hd hL.lv (by simp) rfl (fun ls' h' => kk ls' (hL.put (by simp) rfl h'))) k
theorem z_iinc12 {v0 v1 v2 v3 v4 v5 v6 v7 v8 v9 v10 v11 : Option Value} {t : List (Option Value)} {x : Int32} {n : Int} {y : Int32} (hd : decode mi.2.1 pc = .ok (.iinc 12 n, 3)) (hy : Int32.ofInt n = y) (k : zS l d D b0 mi cs ns (pc + 3) (v0 :: v1 :: v2 :: v3 :: v4 :: v5 :: v6 :: v7 :: v8 :: v9 :: v10 :: v11 :: some (.int (x + y)) :: t) st g f Q) : zS l d D b0 mi cs ns pc (v0 :: v1 :: v2 :: v3 :: v4 :: v5 :: v6 :: v7 :: v8 :: v9 :: v10 :: v11 :: some (.int x) :: t) st g f Q := by
  subst hy
  refine zS.go (fun p e R s m args below meth c H locs ls Qw C hR hc1 hc2 hL kk => ?_) k
  obtain ⟨j, hj⟩ := List.getElem?_of_mem (zpr_of (L := v0 :: v1 :: v2 :: v3 :: v4 :: v5 :: v6 :: v7 :: v8 :: v9 :: v10 :: v11 :: some (.int x) :: t) (i := 12) (v := .int x) rfl)
  exact lv_iinc (i := 12) C.1 C.2.1 hd hL.lv hj rfl (by simp) rfl (fun ls' h' => kk ls' (hL.put (by simp) rfl h'))
theorem z_slen (hd : decode mi.2.1 pc = .ok (.arraylength, 1)) (k : zS l d D b0 mi cs ns (pc + 1) L (.int (nI (zsN D)) :: st) g f Q) : zS l d D b0 mi cs ns pc L (.ref (zsB D) :: st) g f Q := by
  refine zS.hp (Nat.le_refl _) (Nat.le_refl _) (fun p e R s m args below meth c H locs ls Qw C hK hR hL hH hF kk => ?_) k
  obtain ⟨scr, h1, h2, h3, h4, h5⟩ := hK.2.2.2.1
  exact W.alen (n := nI (zsN D)) C.1 C.2.1 (by rw [hF.1 _ hK.2.2.2.2.1]; exact h1) h2 (by rw [h4]; rfl) rfl rfl hd (kk H locs ls hL hH hF)
theorem z_sld {j : Nat} {i : Int32} (hi : i = nI j) (hj : j < zsN D) (hd : decode mi.2.1 pc = .ok (.iaload, 1)) (k : zS l d D b0 mi cs ns (pc + 1) L (.int (zsX D j) :: st) g f Q) : zS l d D b0 mi cs ns pc L (.int i :: .ref (zsB D) :: st) g f Q := by
  refine zS.hp (Nat.le_refl _) (Nat.le_refl _) (fun p e R s m args below meth c H locs ls Qw C hK hR hL hH hF kk => ?_) k
  obtain ⟨scr, h1, h2, h3, h4, h5⟩ := hK.2.2.2.1
  have hN := hK.2.2.2.2.2
  have hc : i.toNatClampNeg = j := by rw [hi]; exact nI_clamp (by omega)
  refine W.iald (v := .int (zsX D j)) C.1 C.2.1 (by rw [hF.1 _ hK.2.2.2.2.1]; exact h1) h2 h3 ?_ (by rw [hc]; exact h5 j hj) rfl rfl hd (kk H locs ls hL hH hF)
  rw [h4, hc, hi]
  intro q
  rcases q with q | q
  · exact absurd q (Int32.not_lt.mpr (nI_le (a := 0) (Nat.zero_le _) (by omega)))
  · omega
end ZLOC
