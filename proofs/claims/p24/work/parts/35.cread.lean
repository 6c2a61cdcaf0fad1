/-! The class's reader, over the block: rows for objects outside it, the making of an expression. -/
section ZRD
variable {l : Launch} {d : Nat} {D : zD} {b0 : Nat} {mi : zMI} {cs ns pc : Nat} {L : List (Option Value)} {st rest : List Value} {g : zG} {f C : zI} {R : zRf} {c : Nat} {Q : Nat → Nat → zKT → Prop} {X : Nat → Prop}
theorem zd_putI {idx ci k a : Nat} {ty : FieldType} {x : Int32} (hW : CW b0 g c) (hf : zFl mi.1.cls idx ci k ty false 99) (ha : zIn b0 g a ci) (ho : ∀ q ∈ bT, ci ≠ q.1) (hd : decode mi.2.1 pc = .ok (.putfield idx, 3)) (kk : zS l d D b0 mi cs ns (pc + 3) L st (gv c g R) (cv c (zup f a k x) C) Q) (hn : narrow ty (.int x) = .int x := by rfl) (hfit : fits ty (.int x) = true := by rfl) : zS l d D b0 mi cs ns pc L (.int x :: .ref a :: st) (gv c g R) (cv c f C) Q := by
  refine z_putI hf ha.gv hd ?_ hn hfit
  rw [cv_stD (hW.out ha ho)]
  exact kk
theorem zd_putR {idx ci k a t' : Nat} {ty : FieldType} {v : Option Nat} (hw : zOK b0 X (gv c g R)) (hW : CW b0 g c) (hf : zFl mi.1.cls idx ci k ty false t') (h9 : t' ≠ 99) (hty : (∃ n, ty = .object n) ∨ ∃ t, ty = .array t) (ha : zIn b0 g a ci) (ho : ∀ q ∈ bT, ci ≠ q.1) (hv : ∀ b, v = some b → zIn b0 g b t') (hq : ∀ q ∈ zSh, ci = q.1 → k ≠ q.2.1) (hd : decode mi.2.1 pc = .ok (.putfield idx, 3))
    (kk : zOK b0 X (gv c (zpR g a k v) R) → zS l d D b0 mi cs ns (pc + 3) L st (gv c (zpR g a k v) R) (cv c f C) Q) : zS l d D b0 mi cs ns pc L (va_rf v :: .ref a :: st) (gv c g R) (cv c f C) Q := by
  refine zw_putR hw hf h9 hty ha.gv hv hq hd (fun h => ?_)
  rw [gv_stD (hW.out ha ho)] at h ⊢
  exact kk h
theorem zd_putRs {idx ci k a t' v : Nat} {ty : FieldType} (hw : zOK b0 X (gv c g R)) (hW : CW b0 g c) (hf : zFl mi.1.cls idx ci k ty false t') (h9 : t' ≠ 99) (hty : (∃ n, ty = .object n) ∨ ∃ t, ty = .array t) (ha : zIn b0 g a ci) (ho : ∀ q ∈ bT, ci ≠ q.1) (hv : zIn b0 g v t') (hq : ∀ q ∈ zSh, ci = q.1 → k ≠ q.2.1) (hd : decode mi.2.1 pc = .ok (.putfield idx, 3))
    (kk : zOK b0 X (gv c (zpR g a k (some v)) R) → zS l d D b0 mi cs ns (pc + 3) L st (gv c (zpR g a k (some v)) R) (cv c f C) Q) : zS l d D b0 mi cs ns pc L (.ref v :: .ref a :: st) (gv c g R) (cv c f C) Q :=
  zd_putR (v := some v) hw hW hf h9 hty ha ho (fun b hb => by cases hb; exact hv) hq hd kk
theorem zd_putRn {idx ci k a t' : Nat} {ty : FieldType} (hw : zOK b0 X (gv c g R)) (hW : CW b0 g c) (hf : zFl mi.1.cls idx ci k ty false t') (h9 : t' ≠ 99) (hty : (∃ n, ty = .object n) ∨ ∃ t, ty = .array t) (ha : zIn b0 g a ci) (ho : ∀ q ∈ bT, ci ≠ q.1) (hq : ∀ q ∈ zSh, ci = q.1 → k ≠ q.2.1) (hd : decode mi.2.1 pc = .ok (.putfield idx, 3))
    (kk : zOK b0 X (gv c (zpR g a k none) R) → zS l d D b0 mi cs ns (pc + 3) L st (gv c (zpR g a k none) R) (cv c f C) Q) : zS l d D b0 mi cs ns pc L (.null :: .ref a :: st) (gv c g R) (cv c f C) Q :=
  zd_putR (v := none) hw hW hf h9 hty ha ho (fun b hb => by cases hb) hq hd kk
theorem zd_st0 {a j N : Nat} {e x : Int32} (ho : ¬ (c ≤ a ∧ a < c + 27)) (ha : zIn b0 g a 13) (hl : g.2.2.1 a = N) (he : e = nI j) (hj : j < N) (hN : N < 2 ^ 31) (hd : decode mi.2.1 pc = .ok (.iastore, 1))
    (kk : zS l d D b0 mi cs ns (pc + 1) L st (gv c g R) (cv c (zup f a j x) C) Q) : zS l d D b0 mi cs ns pc L (.int x :: .int e :: .ref a :: st) (gv c g R) (cv c f C) Q := by
  refine z_iastE ha.gv hl he hj hN hd ?_
  rw [cv_stD ho]
  exact kk
end ZRD
def kexp (S : zSt) (a : Nat) (x : Int32) : zSt := if x = 123 then uR (uN (uR (uN (uI S a 0 x) 14 7) a 5 (some S.1.1)) 13 7) a 6 (some (S.1.1 + 1)) else uI S a 0 x
theorem kexp_t {S : zSt} {a : Nat} {x : Int32} (h : x = 123) : kexp S a x = uR (uN (uR (uN (uI S a 0 x) 14 7) a 5 (some S.1.1)) 13 7) a 6 (some (S.1.1 + 1)) := if_pos h
theorem kexp_f {S : zSt} {a : Nat} {x : Int32} (h : ¬ x = 123) : kexp S a x = uI S a 0 x := if_neg h
set_option maxRecDepth 20000 in
theorem K_X1_init {l : Launch} {d : Nat} {D : zD} {b0 : Nat} {g : zG} {f : zI} {X : Nat → Prop} (hw : zOK b0 X g) (a : Nat) (x : Int32) (ha : zIn b0 g a 1) (hd : 1 ≤ d) : zM l d D b0 mX1_init [.ref a, .int x] g f (zCx b0 X g none (kexp (g, f) a x) 2 14) := by
  refine zM.start zmd_X1_init (Nat.le_of_ble_eq_true rfl) ⟨rfl, rfl, trivial⟩ [some (.ref a), some (.int x)] rfl ?_
  refine z_aload0 dX1_init_0 ?_
  refine z_objInit zl_RX1_3 zin_objectInit zcd_objectInit rfl (by omega) dX1_init_1 ?_
  refine z_aload0 dX1_init_4 ?_
  refine z_iload1 dX1_init_5 ?_
  refine z_putFI fl_RX1_9 rfl rfl ha dX1_init_6 ?_
  refine z_iload1 dX1_init_9 ?_
  refine z_bipush (v := 123) dX1_init_10 (by decide) ?_
  refine z_icmp_ne (tgt := 32) dX1_init_12 (by decide) (fun c12 => ?_) (fun c12 => ?_)
  · show zS _ _ _ _ _ _ _ 32 _ _ _ _ _
    refine z_ret dX1_init_32 rfl ?_
    rw [kexp_f c12]
    exact ⟨rfl, rfl, rfl, by omega, by omega, hw, zLe.rf⟩
  · show zS _ _ _ _ _ _ _ 15 _ _ _ _ _
    refine z_aload0 dX1_init_15 ?_
    refine z_bipush (v := 7) dX1_init_16 (by decide) ?_
    refine zw_anew (t := 14) hw (by decide) (fun _ => rfl) (by decide) (by decide) (N := 7) rfl (by decide) zc_RX1_10 dX1_init_18 (fun w1 k1 i1 l1 => ?_)
    refine zw_putRs w1 fl_RX1_15 (by decide) (Or.inr ⟨_, rfl⟩) (ha.le k1) i1 (by decide) dX1_init_21 (fun w2 => ?_)
    refine z_aload0 dX1_init_24 ?_
    refine z_bipush (v := 7) dX1_init_25 (by decide) ?_
    refine zw_newa w2 (by decide) (N := 7) rfl (by decide) zac_int dX1_init_27 (fun w3 k3 i3 l3 => ?_)
    refine zw_putRs w3 fl_RX1_19 (by decide) (Or.inr ⟨_, rfl⟩) ((ha.le k1).le k3) i3 (by decide) dX1_init_29 (fun w4 => ?_)
    refine z_ret dX1_init_32 rfl ?_
    rw [kexp_t c12]
    exact ⟨rfl, rfl, rfl, by omega, by omega, w4, (k1.tr k3)⟩
def dxG (g : zG) (a : Nat) (x : Int32) : zG := if x = 123 then zpR (znG (zpR (znG g 14 7) a 5 (some g.1)) 13 7) a 6 (some (g.1 + 1)) else g
def dxF (g : zG) (f : zI) (a : Nat) (x : Int32) : zI := if x = 123 then znI (zpR (znG g 14 7) a 5 (some g.1)) (znI g (zup f a 0 x)) else zup f a 0 x
theorem dxG_le (g : zG) (a : Nat) (x : Int32) : zLe g (dxG g a x) := by
  unfold dxG
  split
  · exact (zLe.new g 14 7).tr (zLe.new (zpR (znG g 14 7) a 5 (some g.1)) 13 7)
  · exact zLe.rf
theorem dxG_cv {c : Nat} {g : zG} {f C : zI} {R : zRf} {a : Nat} {x : Int32} (h : c + 27 ≤ g.1) (ho : ¬ (c ≤ a ∧ a < c + 27)) : kexp (gv c g R, cv c f C) a x = (gv c (dxG g a x) R, cv c (dxF g f a x) C) := by
  unfold kexp dxG dxF
  split
  · unfold uR uN uI
    simp only [cv_stD ho]
    rw [gv_new h, cv_new h, gv_stD ho]
    have h2 : c + 27 ≤ (zpR (znG g 14 7) a 5 (some g.1)).1 := Nat.le_succ_of_le h
    show (zpR (znG (gv c (zpR (znG g 14 7) a 5 (some g.1)) R) 13 7) a 6 _, znI (gv c (zpR (znG g 14 7) a 5 (some g.1)) R) (cv c (znI g (zup f a 0 x)) C)) = _
    rw [gv_new h2, cv_new h2, gv_stD ho]
    rfl
  · unfold uI
    simp only [cv_stD ho]
theorem B_X1_init {l : Launch} {d : Nat} {D : zD} {b0 : Nat} {g : zG} {f C : zI} {R : zRf} {c : Nat} {X : Nat → Prop} (hW : CW b0 g c) (hw : zOK b0 X (gv c g R)) (a : Nat) (x : Int32) (ho : ¬ (c ≤ a ∧ a < c + 27)) (ha : zIn b0 g a 1) (hd : 1 ≤ d) : zM l d D b0 mX1_init [.ref a, .int x] (gv c g R) (cv c f C) (zCy b0 X c g none (dxG g a x) R (dxF g f a x) C 2 14) := by
  have K := K_X1_init (l := l) (d := d) (D := D) (f := cv c f C) hw a x ha.gv hd
  rw [dxG_cv hW.2.1 ho] at K
  exact zM.mono K (fun r' g' f' mc ms h => by
    obtain ⟨h1, h2, h3, h4, h5, h6, h7⟩ := h
    refine ⟨h1, h2, h3, h4, h5, ?_, dxG_le g a x, hW.le (dxG_le g a x)⟩
    rw [h2] at h6
    exact h6)
def bparts (v : Int32) : Int32 := if v = 37 then 2 else if v = 42 then 2 else if v = 43 then 2 else if v = 45 then 2 else if v = 48 then 0 else if v = 59 then 2 else if v = 60 then 2 else if v = 61 then 2 else if v = 63 then 3 else if v = 97 then 0 else 1
theorem bparts_37 {v : Int32} (h : v = 37) : bparts v = 2 := by rw [h]; decide
theorem bparts_42 {v : Int32} (h : v = 42) : bparts v = 2 := by rw [h]; decide
theorem bparts_43 {v : Int32} (h : v = 43) : bparts v = 2 := by rw [h]; decide
theorem bparts_45 {v : Int32} (h : v = 45) : bparts v = 2 := by rw [h]; decide
theorem bparts_48 {v : Int32} (h : v = 48) : bparts v = 0 := by rw [h]; decide
theorem bparts_59 {v : Int32} (h : v = 59) : bparts v = 2 := by rw [h]; decide
theorem bparts_60 {v : Int32} (h : v = 60) : bparts v = 2 := by rw [h]; decide
theorem bparts_61 {v : Int32} (h : v = 61) : bparts v = 2 := by rw [h]; decide
theorem bparts_63 {v : Int32} (h : v = 63) : bparts v = 3 := by rw [h]; decide
theorem bparts_97 {v : Int32} (h : v = 97) : bparts v = 0 := by rw [h]; decide
theorem bparts_d {v : Int32} (h0 : ¬ v = 37) (h1 : ¬ v = 42) (h2 : ¬ v = 43) (h3 : ¬ v = 45) (h4 : ¬ v = 48) (h5 : ¬ v = 59) (h6 : ¬ v = 60) (h7 : ¬ v = 61) (h8 : ¬ v = 63) (h9 : ¬ v = 97) : bparts v = 1 := (if_neg h0).trans ((if_neg h1).trans ((if_neg h2).trans ((if_neg h3).trans ((if_neg h4).trans ((if_neg h5).trans ((if_neg h6).trans ((if_neg h7).trans ((if_neg h8).trans ((if_neg h9).trans (rfl))))))))))
set_option maxRecDepth 20000 in
set_option maxHeartbeats 400000 in
theorem B_X1_parts {l : Launch} {d : Nat} {D : zD} {b0 : Nat} {g : zG} {f C : zI} {R : zRf} {c : Nat} (hW : CW b0 g c) (hF : CF c R) (hw : zOK b0 zNo (gv c g R)) (e : Nat) (he : zIn b0 g e 1) : zM l d D b0 mX1_parts [.ref e] (gv c g R) (cv c f C) (zEx (some (.int (bparts (f e 0)))) (gv c g R) (cv c f C)) := by
  refine zM.start zmd_X1_parts (Nat.le_of_ble_eq_true rfl) ⟨rfl, trivial⟩ [some (.ref e)] rfl ?_
  refine z_aload0 dX1_parts_0 ?_
  refine zd_getI hW fl_RX1_9 he (by decide) dX1_parts_1 ?_
  refine z_look dX1_parts_4 (by decide +kernel) (by decide +kernel) ?_
  refine ⟨fun c4_0 => ?_, fun nc4_0 => ?_⟩
  · show zS _ _ _ _ _ _ _ 100 _ _ _ _ _
    rw [bparts_37 c4_0]
    refine z_iconst (v := 2) dX1_parts_100 (by decide) ?_
    refine z_iret dX1_parts_101 rfl ?_
    exact ⟨rfl, rfl, rfl, rfl, rfl⟩
  refine ⟨fun c4_1 => ?_, fun nc4_1 => ?_⟩
  · show zS _ _ _ _ _ _ _ 100 _ _ _ _ _
    rw [bparts_42 c4_1]
    refine z_iconst (v := 2) dX1_parts_100 (by decide) ?_
    refine z_iret dX1_parts_101 rfl ?_
    exact ⟨rfl, rfl, rfl, rfl, rfl⟩
  refine ⟨fun c4_2 => ?_, fun nc4_2 => ?_⟩
  · show zS _ _ _ _ _ _ _ 100 _ _ _ _ _
    rw [bparts_43 c4_2]
    refine z_iconst (v := 2) dX1_parts_100 (by decide) ?_
    refine z_iret dX1_parts_101 rfl ?_
    exact ⟨rfl, rfl, rfl, rfl, rfl⟩
  refine ⟨fun c4_3 => ?_, fun nc4_3 => ?_⟩
  · show zS _ _ _ _ _ _ _ 100 _ _ _ _ _
    rw [bparts_45 c4_3]
    refine z_iconst (v := 2) dX1_parts_100 (by decide) ?_
    refine z_iret dX1_parts_101 rfl ?_
    exact ⟨rfl, rfl, rfl, rfl, rfl⟩
  refine ⟨fun c4_4 => ?_, fun nc4_4 => ?_⟩
  · show zS _ _ _ _ _ _ _ 96 _ _ _ _ _
    rw [bparts_48 c4_4]
    refine z_iconst (v := 0) dX1_parts_96 (by decide) ?_
    refine z_iret dX1_parts_97 rfl ?_
    exact ⟨rfl, rfl, rfl, rfl, rfl⟩
  refine ⟨fun c4_5 => ?_, fun nc4_5 => ?_⟩
  · show zS _ _ _ _ _ _ _ 100 _ _ _ _ _
    rw [bparts_59 c4_5]
    refine z_iconst (v := 2) dX1_parts_100 (by decide) ?_
    refine z_iret dX1_parts_101 rfl ?_
    exact ⟨rfl, rfl, rfl, rfl, rfl⟩
  refine ⟨fun c4_6 => ?_, fun nc4_6 => ?_⟩
  · show zS _ _ _ _ _ _ _ 100 _ _ _ _ _
    rw [bparts_60 c4_6]
    refine z_iconst (v := 2) dX1_parts_100 (by decide) ?_
    refine z_iret dX1_parts_101 rfl ?_
    exact ⟨rfl, rfl, rfl, rfl, rfl⟩
  refine ⟨fun c4_7 => ?_, fun nc4_7 => ?_⟩
  · show zS _ _ _ _ _ _ _ 100 _ _ _ _ _
    rw [bparts_61 c4_7]
    refine z_iconst (v := 2) dX1_parts_100 (by decide) ?_
    refine z_iret dX1_parts_101 rfl ?_
    exact ⟨rfl, rfl, rfl, rfl, rfl⟩
  refine ⟨fun c4_8 => ?_, fun nc4_8 => ?_⟩
  · show zS _ _ _ _ _ _ _ 98 _ _ _ _ _
    rw [bparts_63 c4_8]
    refine z_iconst (v := 3) dX1_parts_98 (by decide) ?_
    refine z_iret dX1_parts_99 rfl ?_
    exact ⟨rfl, rfl, rfl, rfl, rfl⟩
  refine ⟨fun c4_9 => ?_, fun nc4_9 => ?_⟩
  · show zS _ _ _ _ _ _ _ 96 _ _ _ _ _
    rw [bparts_97 c4_9]
    refine z_iconst (v := 0) dX1_parts_96 (by decide) ?_
    refine z_iret dX1_parts_97 rfl ?_
    exact ⟨rfl, rfl, rfl, rfl, rfl⟩
  show zS _ _ _ _ _ _ _ 102 _ _ _ _ _
  rw [bparts_d nc4_0 nc4_1 nc4_2 nc4_3 nc4_4 nc4_5 nc4_6 nc4_7 nc4_8 nc4_9]
  refine z_iconst (v := 1) dX1_parts_102 (by decide) ?_
  refine z_iret dX1_parts_103 rfl ?_
  exact ⟨rfl, rfl, rfl, rfl, rfl⟩
/-- every expression's arrays lie outside the block and have 7 places -/
def EO (b0 : Nat) (g : zG) (c : Nat) : Prop := ∀ a, zIn b0 g a 1 → eOK g c a
theorem EO.put {b0 : Nat} {g : zG} {c a k : Nat} {v : Option Nat} (h : EO b0 g c) (hk : zIn b0 g a 1 → k ≠ 5 ∧ k ≠ 6) : EO b0 (zpR g a k v) c := by
  intro e he
  have he' : zIn b0 g e 1 := he
  have q := h e he'
  have e5 : (zpR g a k v).2.2.2 e 5 = g.2.2.2 e 5 := zup_ne _ _ _ _ (by
    by_cases h1 : e = a
    · subst h1; exact Or.inr (fun q => (hk he').1 q.symm)
    · exact Or.inl h1)
  have e6 : (zpR g a k v).2.2.2 e 6 = g.2.2.2 e 6 := zup_ne _ _ _ _ (by
    by_cases h1 : e = a
    · subst h1; exact Or.inr (fun q => (hk he').2 q.symm)
    · exact Or.inl h1)
  exact ⟨fun b hb => q.1 b (by rw [← e5]; exact hb), fun b hb => q.2 b (by rw [← e6]; exact hb)⟩
theorem EO.xt {b0 : Nat} {X : Nat → Prop} {g G : zG} {R : zRf} {c : Nat} (h : EO b0 g c) (hx : zXt g G) (hw : zOK b0 X (gv c g R)) (hW : CW b0 g c) (hn : ∀ a, g.1 ≤ a → ¬ zIn b0 G a 1) : EO b0 G c := by
  intro a ha
  have hlt : a < g.1 := by
    rcases Nat.lt_or_ge a g.1 with q | q
    · exact q
    · exact absurd ha (hn a q)
  have hi : zIn b0 g a 1 := ⟨ha.1, hlt, ((hx.1.2 a hlt).1).symm.trans ha.2.2⟩
  exact (h a hi).xt hx hw hW hi
theorem EO.exp {b0 : Nat} {X : Nat → Prop} {g : zG} {R : zRf} {c : Nat} {x : Int32} (h : EO b0 g c) (hw : zOK b0 X (gv c g R)) (hW : CW b0 g c) : EO b0 (dxG (znG g 1 0) g.1 x) c := by
  have hb := hW.2.1
  have old : ∀ e, e < g.1 → ∀ k, (dxG (znG g 1 0) g.1 x).2.2.2 e k = g.2.2.2 e k ∧ (dxG (znG g 1 0) g.1 x).2.1 e = g.2.1 e ∧ (dxG (znG g 1 0) g.1 x).2.2.1 e = g.2.2.1 e := by
    intro e he k
    unfold dxG
    split
    · refine ⟨?_, ?_, ?_⟩
      · show zup (zu1 (zup (zu1 (zu1 g.2.2.2 g.1 _) (g.1 + 1) _) g.1 5 _) (g.1 + 1 + 1) _) g.1 6 _ e k = _
        rw [zup_ne _ _ _ _ (Or.inl (by omega)), zu1_ne _ _ _ (by omega), zup_ne _ _ _ _ (Or.inl (by omega)), zu1_ne _ _ _ (by omega), zu1_ne _ _ _ (by omega)]
      · show zu1 (zu1 (zu1 g.2.1 g.1 _) (g.1 + 1) _) (g.1 + 1 + 1) _ e = _
        rw [zu1_ne _ _ _ (by omega), zu1_ne _ _ _ (by omega), zu1_ne _ _ _ (by omega)]
      · show zu1 (zu1 (zu1 g.2.2.1 g.1 _) (g.1 + 1) _) (g.1 + 1 + 1) _ e = _
        rw [zu1_ne _ _ _ (by omega), zu1_ne _ _ _ (by omega), zu1_ne _ _ _ (by omega)]
    · refine ⟨?_, ?_, ?_⟩
      · show zu1 g.2.2.2 g.1 _ e k = _
        rw [zu1_ne _ _ _ (by omega)]
      · show zu1 g.2.1 g.1 _ e = _
        rw [zu1_ne _ _ _ (by omega)]
      · show zu1 g.2.2.1 g.1 _ e = _
        rw [zu1_ne _ _ _ (by omega)]
  intro e he
  rcases Nat.lt_or_ge e g.1 with q | q
  · have hi : zIn b0 g e 1 := ⟨he.1, q, ((old e q 0).2.1).symm.trans he.2.2⟩
    have ho := h e hi
    refine ⟨fun b hb5 => ?_, fun b hb6 => ?_⟩
    · rw [(old e q 5).1] at hb5
      have hq : zIn b0 g b 14 := hw.get (t := 1) (k := 5) hi.gv rfl (by decide) (by rw [gv_out (hW.out hi (by decide))]; exact hb5)
      exact ⟨((old b hq.2.1 0).2.2).trans (ho.1 b hb5).1, (ho.1 b hb5).2⟩
    · rw [(old e q 6).1] at hb6
      have hq : zIn b0 g b 13 := hw.get (t := 1) (k := 6) hi.gv rfl (by decide) (by rw [gv_out (hW.out hi (by decide))]; exact hb6)
      exact ⟨((old b hq.2.1 0).2.2).trans (ho.2 b hb6).1, (ho.2 b hb6).2⟩
  · have h1 := he.2.1
    have h2 := he.2.2
    unfold dxG at h1 h2 ⊢
    by_cases hx : x = 123
    · simp only [if_pos hx] at h1 h2 ⊢
      have h1 : e < g.1 + 1 + 1 + 1 := h1
      have h2 : zu1 (zu1 (zu1 g.2.1 g.1 1) (g.1 + 1) 14) (g.1 + 1 + 1) 13 e = 1 := h2
      obtain rfl : e = g.1 := by
        rcases Nat.lt_or_ge e (g.1 + 1) with q1 | q1
        · omega
        · exfalso
          by_cases q2 : e = g.1 + 1 + 1
          · subst q2; rw [zu1_at] at h2; exact absurd h2 (by decide)
          · rw [zu1_ne _ _ _ q2] at h2
            obtain rfl : e = g.1 + 1 := by omega
            rw [zu1_at] at h2; exact absurd h2 (by decide)
      refine ⟨fun b hb5 => ?_, fun b hb6 => ?_⟩
      · have hb5 : zup (zu1 (zup (zu1 (zu1 g.2.2.2 g.1 (fun _ => none)) (g.1 + 1) (fun _ => none)) g.1 5 (some (g.1 + 1))) (g.1 + 1 + 1) (fun _ => none)) g.1 6 (some (g.1 + 1 + 1)) g.1 5 = some b := hb5
        rw [zup_ne _ _ _ _ (Or.inr (by decide)), zu1_ne _ _ _ (by omega), zup_at] at hb5
        cases hb5
        refine ⟨?_, by omega⟩
        show zu1 (zu1 (zu1 g.2.2.1 g.1 0) (g.1 + 1) 7) (g.1 + 1 + 1) 7 (g.1 + 1) = 7
        rw [zu1_ne _ _ _ (by omega), zu1_at]
      · have hb6 : zup (zu1 (zup (zu1 (zu1 g.2.2.2 g.1 (fun _ => none)) (g.1 + 1) (fun _ => none)) g.1 5 (some (g.1 + 1))) (g.1 + 1 + 1) (fun _ => none)) g.1 6 (some (g.1 + 1 + 1)) g.1 6 = some b := hb6
        rw [zup_at] at hb6
        cases hb6
        refine ⟨?_, by omega⟩
        show zu1 (zu1 (zu1 g.2.2.1 g.1 0) (g.1 + 1) 7) (g.1 + 1 + 1) 7 (g.1 + 1 + 1) = 7
        rw [zu1_at]
    · simp only [if_neg hx] at h1 h2 ⊢
      have h1 : e < g.1 + 1 := h1
      obtain rfl : e = g.1 := by omega
      refine ⟨fun b hb5 => ?_, fun b hb6 => ?_⟩
      · have hb5 : zu1 g.2.2.2 g.1 (fun _ => none) g.1 5 = some b := hb5
        rw [zu1_at] at hb5; cases hb5
      · have hb6 : zu1 g.2.2.2 g.1 (fun _ => none) g.1 6 = some b := hb6
        rw [zu1_at] at hb6; cases hb6
/-- what the reader's walks need: depth n, count m -/
def RV (b0 : Nat) (c K : Nat) (g : zG) (R : zRf) (C : zI) (n m : Nat) : Prop := C 2 9 = nI n ∧ C 2 1 = nI m ∧ n ≤ K ∧ m ≤ K ∧ (∀ k, iv 7 (C 6 k)) ∧ (∀ k, 1 ≤ k → k ≤ n → R 4 k = some ((R 4 k).getD 0)) ∧ (∀ k, k < m → R 3 k = some ((R 3 k).getD 0)) ∧ EO b0 g c
def batt (g : zG) (C : zI) (n w p : Nat) : zG :=
  if C 5 n = 0 then zpR g w 2 (some p) else if C 5 n = 1 then (match g.2.2.2 w 5 with
    | none => zpR g w 3 (some p)
    | some b => zpR g b (tn (C 6 n)) (some p)) else zpR g w 4 (some p)
theorem batt_0 {g : zG} {C : zI} {n w p : Nat} (h : C 5 n = 0) : batt g C n w p = zpR g w 2 (some p) := if_pos h
theorem batt_2 {g : zG} {C : zI} {n w p : Nat} (h : ¬ C 5 n = 0) (h1 : ¬ C 5 n = 1) : batt g C n w p = zpR g w 4 (some p) := (if_neg h).trans (if_neg h1)
theorem batt_n {g : zG} {C : zI} {n w p : Nat} (h1 : C 5 n = 1) (h5 : g.2.2.2 w 5 = none) : batt g C n w p = zpR g w 3 (some p) := by
  unfold batt
  rw [if_neg (by rw [h1]; decide), if_pos h1, h5]
theorem batt_s {g : zG} {C : zI} {n w p b : Nat} (h1 : C 5 n = 1) (h5 : g.2.2.2 w 5 = some b) : batt g C n w p = zpR g b (tn (C 6 n)) (some p) := by
  unfold batt
  rw [if_neg (by rw [h1]; decide), if_pos h1, h5]
set_option maxRecDepth 20000 in
set_option maxHeartbeats 400000 in
theorem B_X6_attach {l : Launch} {d : Nat} {D : zD} {b0 : Nat} {g : zG} {f C : zI} {R : zRf} {c : Nat} (hW : CW b0 g c) (hF : CF c R) (hw : zOK b0 zNo (gv c g R)) (w p n : Nat) (hi : zIn b0 g w 1) (hp : zIn b0 g p 1) (he : eOK g c w) (hdp : C 2 9 = nI n) (hn : n ≤ 120) (h6 : iv 7 (C 6 n)) : zM l d D b0 mX6_attach [.ref (c + 2), .ref w, .ref p] (gv c g R) (cv c f C) (zCy b0 zNo c g none (batt g C n w p) R f C 0 0) := by
  have h61 := h6.1
  refine zM.start zmd_X6_attach (Nat.le_of_ble_eq_true rfl) ⟨rfl, rfl, rfl, trivial⟩ [some (.ref (c + 2)), some (.ref w), some (.ref p)] rfl ?_
  refine z_aload0 dX6_attach_0 ?_
  refine zc_getF (j := 2) hW fl_RX6_20 rfl (by decide) (hF _ (List.mem_of_getElem? (i := 8) rfl)) dX6_attach_1 ?_
  refine z_aload0 dX6_attach_4 ?_
  refine zc_getI (j := 2) hW fl_RX6_37 rfl dX6_attach_5 ?_
  refine zc_ld (j := 5) hW rfl (by decide) hdp (by omega) dX6_attach_8 ?_
  refine z_look dX6_attach_9 (by decide +kernel) (by decide +kernel) ?_
  refine ⟨fun c9_0 => ?_, fun nc9_0 => ?_⟩
  · show zS _ _ _ _ _ _ _ 36 _ _ _ _ _
    rw [batt_0 c9_0]
    refine z_aload1 dX6_attach_36 ?_
    refine z_aload2 dX6_attach_37 ?_
    refine zd_putRs hw hW fl_RX6_106 (by decide) (Or.inl ⟨_, rfl⟩) hi (by decide) hp (by decide) dX6_attach_38 (fun w1 => ?_)
    refine z_goto (tgt := 82) dX6_attach_41 (by decide) ?_
    show zS _ _ _ _ _ _ _ 82 _ _ _ _ _
    refine z_ret dX6_attach_82 rfl ?_
    exact ⟨rfl, rfl, rfl, by omega, by omega, w1, zLe.rf, hW⟩
  refine ⟨fun c9_1 => ?_, fun nc9_1 => ?_⟩
  · show zS _ _ _ _ _ _ _ 44 _ _ _ _ _
    refine z_aload1 dX6_attach_44 ?_
    refine zd_getN hw hW fl_RX6_109 hi (by decide) (by decide) dX6_attach_45 (fun i2 => ?_)
    refine z_ifnonnull (tgt := 59) dX6_attach_48 (by decide) (fun a48 c48 => ?_) (fun c48 => ?_)
    · show zS _ _ _ _ _ _ _ 59 _ _ _ _ _
      rw [batt_s c9_1 c48]
      refine z_aload1 dX6_attach_59 ?_
      refine zd_getS hw hW fl_RX6_109 hi (by decide) (by decide) c48 dX6_attach_60 (fun i3 => ?_)
      refine z_aload0 dX6_attach_63 ?_
      refine zc_getF (j := 2) hW fl_RX6_24 rfl (by decide) (hF _ (List.mem_of_getElem? (i := 9) rfl)) dX6_attach_64 ?_
      refine z_aload0 dX6_attach_67 ?_
      refine zc_getI (j := 2) hW fl_RX6_37 rfl dX6_attach_68 ?_
      refine zc_ld (j := 6) hW rfl (by decide) hdp (by omega) dX6_attach_71 ?_
      refine z_aload2 dX6_attach_72 ?_
      refine zd_ast (v := some _) (t' := 1) hw (he.1 _ c48).2 i3 (by decide) (he.1 _ c48).1 h6.2 (by omega) (by first | decide | omega) (fun _ => rfl) (fun b hb => by cases hb; exact hp) dX6_attach_73 (fun w4 => ?_)
      refine z_goto (tgt := 82) dX6_attach_74 (by decide) ?_
      show zS _ _ _ _ _ _ _ 82 _ _ _ _ _
      refine z_ret dX6_attach_82 rfl ?_
      exact ⟨rfl, rfl, rfl, by omega, by omega, w4, zLe.rf, hW⟩
    · show zS _ _ _ _ _ _ _ 51 _ _ _ _ _
      rw [batt_n c9_1 c48]
      refine z_aload1 dX6_attach_51 ?_
      refine z_aload2 dX6_attach_52 ?_
      refine zd_putRs hw hW fl_RX6_112 (by decide) (Or.inl ⟨_, rfl⟩) hi (by decide) hp (by decide) dX6_attach_53 (fun w5 => ?_)
      refine z_goto (tgt := 82) dX6_attach_56 (by decide) ?_
      show zS _ _ _ _ _ _ _ 82 _ _ _ _ _
      refine z_ret dX6_attach_82 rfl ?_
      exact ⟨rfl, rfl, rfl, by omega, by omega, w5, zLe.rf, hW⟩
  show zS _ _ _ _ _ _ _ 77 _ _ _ _ _
  rw [batt_2 nc9_0 nc9_1]
  refine z_aload1 dX6_attach_77 ?_
  refine z_aload2 dX6_attach_78 ?_
  refine zd_putRs hw hW fl_RX6_115 (by decide) (Or.inl ⟨_, rfl⟩) hi (by decide) hp (by decide) dX6_attach_79 (fun w6 => ?_)
  refine z_ret dX6_attach_82 rfl ?_
  exact ⟨rfl, rfl, rfl, by omega, by omega, w6, zLe.rf, hW⟩
/-- an expression is made: depth n, count m -/
def badd (g : zG) (R : zRf) (f C : zI) (x : Int32) (n m : Nat) : bSt :=
  (if 0 < C 2 9 then batt (dxG (znG g 1 0) g.1 x) (zup C 2 1 (C 2 1 + 1)) n ((R 4 n).getD 0) g.1 else dxG (znG g 1 0) g.1 x, zup R 3 m (some g.1), dxF (znG g 1 0) (znI g f) g.1 x, zup C 2 1 (C 2 1 + 1))
theorem badd_t {g : zG} {R : zRf} {f C : zI} {x : Int32} {n m : Nat} (h : 0 < C 2 9) : badd g R f C x n m = (batt (dxG (znG g 1 0) g.1 x) (zup C 2 1 (C 2 1 + 1)) n ((R 4 n).getD 0) g.1, zup R 3 m (some g.1), dxF (znG g 1 0) (znI g f) g.1 x, zup C 2 1 (C 2 1 + 1)) := by unfold badd; rw [if_pos h]
theorem badd_f {g : zG} {R : zRf} {f C : zI} {x : Int32} {n m : Nat} (h : ¬ 0 < C 2 9) : badd g R f C x n m = (dxG (znG g 1 0) g.1 x, zup R 3 m (some g.1), dxF (znG g 1 0) (znI g f) g.1 x, zup C 2 1 (C 2 1 + 1)) := by unfold badd; rw [if_neg h]
theorem CF.r3 {c : Nat} {R : zRf} {k : Nat} {v : Option Nat} (h : CF c R) : CF c (zup R 3 k v) := h.upj (by decide)
theorem CF.r4 {c : Nat} {R : zRf} {k : Nat} {v : Option Nat} (h : CF c R) : CF c (zup R 4 k v) := h.upj (by decide)
theorem CF.r8 {c : Nat} {R : zRf} {k : Nat} {v : Option Nat} (h : CF c R) : CF c (zup R 8 k v) := h.upj (by decide)
theorem CF.add {c : Nat} {g : zG} {R : zRf} {f C : zI} {x : Int32} {n m : Nat} (h : CF c R) : CF c (badd g R f C x n m).2.1 := h.r3
theorem npos {C : zI} {n : Nat} (hdp : C 2 9 = nI n) (hn : n ≤ 120) (h : 0 < C 2 9) : 1 ≤ n := by
  rw [hdp] at h
  exact (nI_ltI (a := 0) (b := n) (by decide) (by omega)).mp h
set_option maxRecDepth 20000 in
set_option maxHeartbeats 400000 in
theorem B_X6_addExpression {l : Launch} {d : Nat} {D : zD} {b0 : Nat} {g : zG} {f C : zI} {R : zRf} {c : Nat} (hW : CW b0 g c) (hF : CF c R) (hw : zOK b0 zNo (gv c g R)) (x : Int32) (n m : Nat) (hdp : C 2 9 = nI n) (hct : C 2 1 = nI m) (hn : n ≤ 120) (hm : m < 120) (hop : 0 < C 2 9 → R 4 n = some ((R 4 n).getD 0)) (h6 : iv 7 (C 6 n)) (hE : EO b0 g c) (hd : 2 ≤ d) : zM l d D b0 mX6_addExpression [.ref (c + 2), .int x] (gv c g R) (cv c f C) (zCy b0 zNo c g (some (.ref g.1)) (badd g R f C x n m).1 (badd g R f C x n m).2.1 (badd g R f C x n m).2.2.1 (badd g R f C x n m).2.2.2 3 24) := by
  refine zM.start zmd_X6_addExpression (Nat.le_of_ble_eq_true rfl) ⟨rfl, rfl, trivial⟩ [some (.ref (c + 2)), some (.int x), none] rfl ?_
  refine z_aload0 dX6_addExpression_0 ?_
  refine zc_getI (j := 2) hW fl_RX6_33 rfl dX6_addExpression_1 ?_
  refine z_aload0 dX6_addExpression_4 ?_
  refine zc_getF (j := 2) hW fl_RX6_11 rfl (by decide) (hF _ (List.mem_of_getElem? (i := 6) rfl)) dX6_addExpression_5 ?_
  refine zc_len (j := 3) hW rfl (by decide) dX6_addExpression_8 ?_
  refine z_icmp_lt (tgt := 14) dX6_addExpression_9 (by decide) (fun c9 => ?_) (fun c9 => ?_)
  · show zS _ _ _ _ _ _ _ 14 _ _ _ _ _
    refine zd_new hw hW zcls_X1 zc_RX6_9 zi_RX1 zini_RX1 (by decide) dX6_addExpression_14 (fun w1 k1 b1 i1 => ?_)
    refine z_dup dX6_addExpression_17 ?_
    refine z_iload1 dX6_addExpression_18 ?_
    refine z_callI zmd_X1_init rfl rfl zl_RX6_100 zin_X1_init (B_X1_init (d := d - 1) b1 w1 _ _ hW.newout i1 (by omega)) rfl rfl (by omega) rfl dX6_addExpression_19 (fun r2 g2 f2 mc2 ms2 q2 => ?_)
    obtain ⟨rfl, rfl, rfl, hc2, hs2, w2, k2, b2⟩ := q2
    refine z_astore2 dX6_addExpression_22 ?_
    refine z_aload0 dX6_addExpression_23 ?_
    refine zc_getF (j := 2) b2 fl_RX6_11 rfl (by decide) (hF _ (List.mem_of_getElem? (i := 6) rfl)) dX6_addExpression_24 ?_
    refine z_aload0 dX6_addExpression_27 ?_
    refine zc_getI (j := 2) b2 fl_RX6_33 rfl dX6_addExpression_28 ?_
    refine z_aload2 dX6_addExpression_31 ?_
    refine zc_asts (j := 3) (t' := 1) w2 b2 rfl (by decide) (by decide) hct (by omega) (fun _ => rfl) (i1.le k2) dX6_addExpression_32 (fun w3 => ?_)
    show zS _ _ _ _ _ _ _ 33 _ _ _ _ _
    refine z_aload0 dX6_addExpression_33 ?_
    refine z_dup dX6_addExpression_34 ?_
    refine zc_getI (j := 2) b2 fl_RX6_33 rfl dX6_addExpression_35 ?_
    refine z_iconst (v := 1) dX6_addExpression_38 (by decide) ?_
    refine z_iadd dX6_addExpression_39 ?_
    refine zc_putI (j := 2) b2 fl_RX6_33 rfl dX6_addExpression_40 ?_
    have hE2 : EO b0 (dxG (znG g 1 0) g.1 x) c := hE.exp hw hW
    refine z_aload0 dX6_addExpression_43 ?_
    refine zc_getI (j := 2) b2 fl_RX6_37 rfl dX6_addExpression_44 ?_
    refine z_if_le (tgt := 64) dX6_addExpression_47 (by decide) (fun c47 => ?_) (fun c47 => ?_)
    · show zS _ _ _ _ _ _ _ 64 _ _ _ _ _
      refine z_aload2 dX6_addExpression_64 ?_
      refine z_aret dX6_addExpression_65 rfl ?_ (Or.inl ⟨_, rfl⟩)
      rw [badd_f (C := C) c47]
      exact ⟨rfl, rfl, rfl, by omega, by omega, w3, (k1.tr k2), b2⟩
    · show zS _ _ _ _ _ _ _ 50 _ _ _ _ _
      refine z_aload0 dX6_addExpression_50 ?_
      refine z_aload0 dX6_addExpression_51 ?_
      refine zc_getF (j := 2) b2 fl_RX6_17 rfl (by decide) ((hF.upj (by decide)) _ (List.mem_of_getElem? (i := 7) rfl)) dX6_addExpression_52 ?_
      refine z_aload0 dX6_addExpression_55 ?_
      refine zc_getI (j := 2) b2 fl_RX6_37 rfl dX6_addExpression_56 ?_
      refine zc_alds (j := 4) (t' := 1) w3 b2 rfl (by decide) (by decide) hdp (by omega) (fun _ => rfl) (by decide) (hop c47) dX6_addExpression_59 (fun i4 => ?_)
      refine z_aload2 dX6_addExpression_60 ?_
      refine z_callV zmd_X6_attach rfl (by decide) zl_RX6_102 zin_X6_attach zsel_X6_attach (B_X6_attach (d := d - 1) b2 (hF.upj (by decide)) w3 _ _ n i4 (i1.le k2) (hE2 _ i4) (hdp : zup C 2 1 (C 2 1 + 1) 2 9 = nI n) (by omega) (h6 : iv 7 (zup C 2 1 (C 2 1 + 1) 6 n))) (b2.i 2 rfl) rfl rfl (by omega) rfl dX6_addExpression_61 (fun r5 g5 f5 mc5 ms5 q5 => ?_)
      obtain ⟨rfl, rfl, rfl, hc5, hs5, w5, k5, b5⟩ := q5
      refine z_aload2 dX6_addExpression_64 ?_
      refine z_aret dX6_addExpression_65 rfl ?_ (Or.inl ⟨_, rfl⟩)
      rw [badd_t (C := C) c47]
      exact ⟨rfl, rfl, rfl, by omega, by omega, w5, ((k1.tr k2).tr k5), b5⟩
  · exact absurd (by rw [hct]; exact nI_lt (b := 120) (by omega) (by decide)) c9
