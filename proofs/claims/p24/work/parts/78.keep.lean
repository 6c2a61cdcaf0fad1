/-! What a step of the class leaves as it was; what bounds its counts. -/
def KF (S T : bSt) : Prop := zXt S.1 T.1 ∧ (∀ y, y < S.1.1 → T.2.2.1 y = S.2.2.1 y) ∧ (∀ k, k < 13 ∨ 26 ≤ k → T.2.2.2 k = S.2.2.2 k) ∧ (∀ k, k ≠ 14 → k ≠ 17 → k ≠ 20 → T.2.1 k = S.2.1 k) ∧ (∀ j, j ≠ 4 → j ≠ 5 → T.2.1 17 j = S.2.1 17 j) ∧ ∀ x, S.1.1 ≤ x → x < T.1.1 → T.1.2.1 x ≠ 0 ∧ T.1.2.1 x ≠ 1 ∧ (T.1.2.1 x = 7 → T.1.2.2.2 x 1 = some (x - 1))
theorem KF.rf (S : bSt) : KF S S := ⟨zXt.rf, fun _ _ => rfl, fun _ _ => rfl, fun _ _ _ _ => rfl, fun _ _ _ => rfl, fun x h k => absurd k (Nat.not_lt_of_le h)⟩
theorem KF.tr {S T U : bSt} (h : KF S T) (k : KF T U) : KF S U := ⟨h.1.tr k.1, fun y hy => (k.2.1 y (Nat.lt_of_lt_of_le hy h.1.1.1)).trans (h.2.1 y hy), fun j hj => (k.2.2.1 j hj).trans (h.2.2.1 j hj), fun j a b c => (k.2.2.2.1 j a b c).trans (h.2.2.2.1 j a b c), fun j a b => (k.2.2.2.2.1 j a b).trans (h.2.2.2.2.1 j a b), fun x a b => by
  by_cases q : x < T.1.1
  · rw [(k.1.1.2 x q).1, k.1.2 x q]; exact h.2.2.2.2.2 x a q
  · exact k.2.2.2.2.2 x (by omega) b⟩
section KFS
variable {g : zG} {R : zRf} {f C : zI}
theorem KF.mk {G : zG} {R' : zRf} {F C' : zI} (h1 : zXt g G) (h2 : ∀ y, y < g.1 → F y = f y) (h3 : ∀ k, k < 13 ∨ 26 ≤ k → C' k = C k) (h4 : ∀ k, k ≠ 14 → k ≠ 17 → k ≠ 20 → R' k = R k) (h5 : ∀ j, j ≠ 4 → j ≠ 5 → R' 17 j = R 17 j) (h6 : ∀ x, g.1 ≤ x → x < G.1 → G.2.1 x ≠ 0 ∧ G.2.1 x ≠ 1 ∧ (G.2.1 x = 7 → G.2.2.2 x 1 = some (x - 1))) : KF (g, R, f, C) (G, R', F, C') := ⟨h1, h2, h3, h4, h5, h6⟩
theorem KF.one {G : zG} {k : Nat} (h1 : G.1 = g.1 + 1) (h2 : G.2.1 g.1 = k) (h0 : k ≠ 0 ∧ k ≠ 1 ∧ k ≠ 7) : ∀ x, g.1 ≤ x → x < G.1 → G.2.1 x ≠ 0 ∧ G.2.1 x ≠ 1 ∧ (G.2.1 x = 7 → G.2.2.2 x 1 = some (x - 1)) := by
  intro x a b
  obtain rfl : x = g.1 := by omega
  rw [h2]
  exact ⟨h0.1, h0.2.1, fun z => absurd z h0.2.2⟩
theorem KF.non {P : Nat → Prop} : ∀ x, g.1 ≤ x → x < g.1 → P x := fun x h k => absurd k (Nat.not_lt_of_le h)
theorem KF.fr {e s r : Option Nat} {k y : Int32} : KF (g, R, f, C) (dFr g e s r, R, dFrF g f k y, C) := KF.mk (zXt.fr _ _ _ _) (fun y hy => dFrF_o hy) (fun _ _ => rfl) (fun _ _ _ _ => rfl) (fun _ _ _ => rfl) (KF.one (k := 2) rfl (zu1_at _ _ _) (by decide))
theorem KF.sc {s r : Option Nat} {k y : Int32} : KF (g, R, f, C) (dSc g r s, R, dScF g f k y, C) := KF.mk (zXt.sc _ _ _) (fun y hy => dScF_o hy) (fun _ _ => rfl) (fun _ _ _ _ => rfl) (fun _ _ _ => rfl) (KF.one (k := 9) rfl (zu1_at _ _ _) (by decide))
theorem KF.res {cp : Nat} {x : Int32} (hc : cp = g.1 - 1) : KF (g, R, f, C) (dRes g cp, R, dResF g f x, C) := KF.mk (zXt.res _ _) (fun y hy => by
  unfold dResF
  rw [zup_r (Nat.ne_of_lt hy)]
  exact zu1_ne _ _ _ (Nat.ne_of_lt hy)) (fun _ _ => rfl) (fun _ _ _ _ => rfl) (fun _ _ _ => rfl) (by
  intro y a b
  obtain rfl : y = g.1 := by have b : y < g.1 + 1 := b; omega
  have e : (dRes g cp).2.1 g.1 = 7 := zu1_at _ _ _
  rw [e]
  exact ⟨by decide, by decide, fun _ => (zup_at _ _ _ _).trans (congrArg some hc)⟩)
theorem KF.capG {r : Nat → Option Nat} {p n k : Nat} : KF (g, R, f, C) (capG g r p n k, R, znI g f, C) := KF.mk (zXt.capG _ _ _ _ _) (fun y hy => zu1_ne _ _ _ (Nat.ne_of_lt hy)) (fun _ _ => rfl) (fun _ _ _ _ => rfl) (fun _ _ _ => rfl) (KF.one (k := 15) rfl (zu1_at _ _ _) (by decide))
theorem KF.c {C' : zI} (h : ∀ k, k < 13 ∨ 26 ≤ k → C' k = C k) : KF (g, R, f, C) (g, R, f, C') := KF.mk zXt.rf (fun _ _ => rfl) h (fun _ _ _ _ => rfl) (fun _ _ _ => rfl) KF.non
theorem KF.r {R' : zRf} (h4 : ∀ k, k ≠ 14 → k ≠ 17 → k ≠ 20 → R' k = R k) (h5 : ∀ j, j ≠ 4 → j ≠ 5 → R' 17 j = R 17 j) : KF (g, R, f, C) (g, R', f, C) := KF.mk zXt.rf (fun _ _ => rfl) (fun _ _ => rfl) h4 h5 KF.non
theorem KF.r20 {k : Nat} {v : Option Nat} : KF (g, R, f, C) (g, zup R 20 k v, f, C) := KF.r (fun _ _ _ h => zup_r h) (fun j _ _ => zup_ne _ _ _ _ (Or.inl (by decide)))
theorem KF.r14 {k : Nat} {v : Option Nat} : KF (g, R, f, C) (g, zup R 14 k v, f, C) := KF.r (fun _ h _ _ => zup_r h) (fun j _ _ => zup_ne _ _ _ _ (Or.inl (by decide)))
theorem KF.r4 {v : Option Nat} : KF (g, R, f, C) (g, zup R 17 4 v, f, C) := KF.r (fun _ _ h _ => zup_r h) (fun j h _ => zup_ne _ _ _ _ (Or.inr h))
theorem KF.go {e s : Option Nat} : KF (g, R, f, C) (g, bgoTo R e s, f, C) := KF.r (fun _ _ h _ => by unfold bgoTo; rw [zup_r h, zup_r h]) (fun j h h' => by unfold bgoTo; rw [zup_ne _ _ _ _ (Or.inr h'), zup_ne _ _ _ _ (Or.inr h)])
theorem KF.push : KF (g, R, f, C) (g, R, f, bpushC C) := KF.c (fun k hk => bpushC_r (by omega))
theorem KF.pop : KF (g, R, f, C) (g, R, f, bpopC C) := KF.c (fun k hk => bpopC_r (by omega))
theorem KF.c17 {k : Nat} {x : Int32} : KF (g, R, f, C) (g, R, f, zup C 17 k x) := KF.c (fun k hk => zup_r (by omega))
theorem KF.ende {R' : zRf} : KF (g, R, f, C) (g, R, f, bend C R') := KF.c (fun k hk => by
  unfold bend
  repeat' split
  all_goals first
    | rfl
    | exact zup_r (by omega))
theorem KF.psh {k y : Int32} {e : Nat} {r : Option Nat} : KF (g, R, f, C) (bpsh g R f C k y e r) := ((KF.fr.tr KF.r20).tr KF.go).tr KF.push
theorem KF.exe {x : Nat} : KF (g, R, f, C) (bexe g R f C x) := (((KF.c (C' := bexec C (f x 3)) (fun k hk => bexec_r (by omega) (by omega))).tr KF.fr).tr (KF.r20.tr KF.go)).tr KF.push
theorem KF.call {p : Int32} : KF (g, R, f, C) (bcall g R f C p) := by
  unfold bcall
  split
  · exact KF.sc.tr KF.go
  · exact KF.rf _
theorem KF.leave {h : Nat} {s : Option Nat} : KF (g, R, f, C) (bleave g R f C h s) := by
  unfold bleave
  split
  · exact KF.rf _
  · exact KF.sc.tr KF.go
theorem KF.cap {p n : Nat} : KF (g, R, f, C) (bcap g R f C p n) := by
  have h1 : KF (g, R, f, C) (g, R, f, bnewRes (zup C 19 1 (C 19 1 - nI n))) := KF.c (fun k hk => by rw [bnewRes_r (by omega) (by omega)]; exact zup_r (by omega))
  exact ((((h1.tr KF.capG).tr (KF.res (Nat.add_sub_cancel g.1 1).symm)).tr KF.fr).tr KF.r20).tr KF.push
theorem KF.perfo {x : Int32} {dp : Nat} : KF (g, R, f, C) (bperf g R f C x dp) := by
  have h1 : KF (g, R, f, C) (g, R, f, bpc C x) := KF.c (fun k hk => bpc_r (by omega))
  unfold bperf
  split
  · exact h1.tr (KF.c17.tr KF.c17)
  · have h2 := h1.tr (KF.cap (p := tn (bphA g f (R 20) x dp 0)) (n := dp - tn (bphA g f (R 20) x dp 0)))
    exact (h2.tr KF.sc).tr KF.go
theorem KF.resG {a : Nat} : ∀ k, KF (g, R, f, C) (g, (bresG g a R C k).1, f, (bresG g a R C k).2) := by
  intro k
  obtain ⟨h1, h2⟩ := bresG_r (g := g) (a := a) (R := R) (C := C) k
  exact KF.mk zXt.rf (fun _ _ => rfl) (fun k hk => h1 k (by omega)) (fun k _ _ h => h2 k h) (fun j _ _ => congrFun (h2 17 (by decide)) j) KF.non
theorem KF.resu {r : Option Nat} : KF (g, R, f, C) (g, (bresu g R f C r).1, f, (bresu g R f C r).2) := by
  cases r with
  | none => exact KF.rf _
  | some a =>
    by_cases q : 100 < C 19 1 + (nI (bresuN g a) - 1)
    · rw [bresu_t q]; exact KF.rf _
    · rw [bresu_f q]
      have h1 : KF (g, R, f, C) (g, R, f, buse (bpopC C) f a) := KF.c (fun k hk => by rw [buse_r (by omega) (by omega)]; exact bpopC_r (by omega))
      exact h1.tr (KF.resG _)
theorem KF.visit {r : Option Nat} : KF (g, R, f, C) (g, (bvisit C R g f r).2, f, (bvisit C R g f r).1) := by
  cases r with
  | none => exact KF.rf _
  | some a =>
    by_cases q : ¬ 0 < buses C f (some a) ∧ C 13 2 < 1000 ∧ kplace (f a 0) ∧ ¬ C 16 (tn (f a 0)) = C 13 4
    · rw [bvisit_t q.1 q.2.1 q.2.2.1 q.2.2.2]
      refine KF.r14.tr (KF.c (fun k hk => ?_))
      show zup (zup (zup C 16 _ _) 15 _ _) 13 2 _ k = C k
      rw [zup_r (by omega), zup_r (by omega), zup_r (by omega)]
    · rw [bvisit_f q]; exact KF.rf _
theorem KF.fs : ∀ (j : Nat) (C : zI) (R : zRf), KF (g, R, f, C) (g, (bfs g f j C R).2.2, f, (bfs g f j C R).2.1) := by
  intro j
  induction j with
  | zero => intro C R; exact KF.rf _
  | succ j ih =>
    intro C R
    have hB : KF (g, R, f, C) (g, R, f, bfsB C) := KF.c (fun k hk => zup_r (by omega))
    unfold bfs
    split
    · exact KF.rf _
    · split
      · exact (KF.c (fun k hk => zup_r (by omega))).tr (ih _ _)
      · split
        · exact hB
        · split
          · exact (hB.tr KF.visit).tr (ih _ _)
          · exact hB.tr (ih _ _)
theorem KF.first {r : Option Nat} : KF (g, R, f, C) (g, (bfirst g f C R r).2.2, f, (bfirst g f C R r).2.1) := by
  have h1 : KF (g, R, f, C) (g, R, f, bfst0 C) := KF.c (fun k hk => by unfold bfst0; rw [zup_r (by omega), zup_r (by omega)])
  exact (h1.tr KF.visit).tr (KF.fs _ _ _)
theorem KF.lcl {x : Nat} : KF (g, R, f, C) (blcl g R f C x) := by
  cases hq : (bfirst g f C R (g.2.2.2 x 4)).1 with
  | none => rw [(blcl_n rfl hq).1]; exact KF.first.tr KF.pop
  | some y =>
    by_cases k : 100 < (bfirst g f C R (g.2.2.2 x 4)).2.1 19 1 + 1
    · rw [(blcl_t rfl hq k).1]; exact KF.first
    · rw [(blcl_f rfl hq k).1]; exact KF.first.tr KF.exe
theorem KF.goat {x e : Nat} : KF (g, R, f, C) (bgoat g R f C x e) := by
  unfold bgoat bg1 bg3 bg5 bg9
  repeat' split
  all_goals first
    | exact KF.rf _
    | exact KF.c17
    | exact KF.go
    | exact ((KF.fr.tr KF.r20).tr KF.go).tr KF.push
    | exact KF.sc.tr KF.go
    | exact KF.exe
    | exact KF.call
    | exact KF.leave
    | skip
  unfold bemit
  split
  · exact KF.c (fun k hk => by show zup (zup C 24 _ _) 17 11 _ k = C k; rw [zup_r (by omega), zup_r (by omega)])
  · exact KF.rf _
theorem KF.out {dp : Nat} {r : Option Nat} : KF (g, R, f, C) (bout g R f C dp r).1 := by
  cases r with
  | none => exact KF.rf _
  | some x =>
    unfold bout
    simp only
    repeat' split
    all_goals first
      | exact KF.resu
      | exact KF.lcl
      | exact KF.pop.tr KF.c17
      | exact KF.pop.tr KF.perfo
      | exact KF.pop.tr KF.goat
theorem KF.into {e k : Nat} : KF (g, R, f, C) (binto g R f C e k).1 := by
  have h1 : KF (g, R, f, C) (g, R, f, bnewFin C) := KF.c (fun k hk => bnewFin_r (by omega) (by omega))
  unfold binto
  repeat' split
  all_goals first
    | exact KF.rf _
    | exact KF.r4.tr KF.c17
    | exact h1.tr KF.psh
    | exact KF.psh
end KFS
theorem KF.fin {S : bSt} {q : bSt × Int32} (h : KF S q.1) : KF S (bfin q) := by
  unfold bfin
  split
  · exact h.tr KF.c17
  · exact h.tr (KF.c17.tr KF.ende)
theorem KF.step {g : zG} {R : zRf} {f C : zI} {k dp : Nat} : KF (g, R, f, C) (bstep g R f C k dp) := by
  refine KF.fin ?_
  cases q : R 17 4 with
  | none => rw [bstep0_n q]; exact KF.out
  | some e => rw [bstep0_s q]; exact KF.into
