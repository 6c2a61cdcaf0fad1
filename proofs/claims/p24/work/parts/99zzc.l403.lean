/-! The law's body: both are alike; the fifth turn's image. -/
section L403
variable {l : Launch} {d : Nat} {D : zD} {b0 n0 c c' k k' a T cs ns : Nat} {g G : zG} {f F M N E : zI} {m4 m5 w v8 : Int32} {Q : Nat → Nat → zKT → Prop} {o8 o9 o10 o11 o12 : Option Value}
/-- what holds between two turns -/
def TI (b0 n0 c c' k k' T : Nat) (M : zI) (w : Int32) (g : zG) (f : zI) : Prop := (OB b0 n0 c k M g f ∧ OB b0 n0 c' k' M g f ∧ (T ≤ 5 → g.2.2.2 (c + 26) 0 = none)) ∧ NI M ∧ (w = 0 ∨ w = 1) ∧ (w = 0 → FT M)
theorem O_keep2 (h : OB b0 n0 c k M g f) (hd : 3 ≤ d) : zM l d D b0 mX11_keep [.ref c, .int 2] g f (fun r G F mc ms => r = some (.int (-1)) ∧ G = g ∧ F = f ∧ mc ≤ 13 ∧ ms ≤ 5199) := by
  obtain ⟨g, R, f, C, t, y, n, ⟨rfl, rfl⟩, ⟨hW, hF, hw⟩, h, h26⟩ := h
  refine (B_X11_keep_b (l := l) (d := d) (D := D) (f := f) (C := C) hW hw 2 0 (by decide) hd).mono (fun r g' f' mc ms q => ?_)
  obtain ⟨q1, q2, q3, q4, q5, -⟩ := q
  rw [bkeep_b (by decide)] at q1 q2 q3
  exact ⟨q1, q2, q3, q4, q5⟩
theorem L_403 (hd : 10 ≤ d) (hG : HG n0 c c' a) (hcc : c + 27 ≤ c') (hT : T < 12) (hI : TI b0 n0 c c' k k' T M w g f) (hk : 120 * (k + 3) ≤ 64800) (hk' : 120 * k' ≤ 64800)
    (hend : ∀ (g : zG) (f : zI) (k2 : Nat) (o9 o10 o11 : Option Value), k2 ≤ k + 3 → TI b0 n0 c c' k2 k' (T + 1) M w g f → zS l d D b0 mL_law (cs + 13) (ns + 5199) 481 [some (.ref (zsB D)), some (.ref c), some (.ref c'), some (.ref a), some (.int m4), some (.int m5), some (.int w), some (.int (nI T)), o8, o9, o10, o11, o12] [] g f Q) :
    zS l d D b0 mL_law cs ns 403 [some (.ref (zsB D)), some (.ref c), some (.ref c'), some (.ref a), some (.int m4), some (.int m5), some (.int w), some (.int (nI T)), o8, o9, o10, o11, o12] [] g f Q := by
  obtain ⟨⟨hO, hP, h26⟩, hI, hw, hF⟩ := hI
  have hs : SND M := hO.snd hI.2.1
  refine z_aload1 dL_law_403 ?_
  refine z_aload2 dL_law_404 ?_
  refine z_callSi zmd_L_areAlike zl_RL_103 zst_L_areAlike (L_areAlike (d := d - 1) hO hP hs (by omega)) rfl rfl (by omega) rfl dL_law_405 ?_
  refine z_if_ne (tgt := 413) dL_law_408 (by decide) (fun _ => ?_) (fun c408 => absurd c408 (by decide))
  show zS _ _ _ _ _ _ _ 413 _ _ _ _ _
  by_cases q : T = 5
  · subst q
    obtain ⟨K, eK⟩ : ∃ K, K = (pkeep M (nI 0)).2 := ⟨_, rfl⟩
    obtain ⟨p1, p2, p3⟩ := pback_same hI.2.2.2
    rw [← eK] at p1 p2 p3
    have k2 : K 2 = M 2 := by
      rw [eK]
      unfold pkeep
      rw [if_neg (by decide)]
      show zup (pkeep2 M (nI 0)) 0 4 (M 0 4 ||| 1 <<< (nI 0 &&& 31)) 2 = M 2
      rw [zup_r (by decide)]
      unfold pkeep2 pkeep1
      funext q
      rw [pcp_r (by decide), pcp_r (by decide)]
    have t1 : ptold (pbegin K) 1 = 0 := (pbegin_z (by decide) (by decide) (by decide) (by decide) (by decide) (by decide) (by decide) (by decide) : pbegin K 2 6 = 0)
    refine z_iload7 dL_law_413 ?_
    refine z_iconst (v := 5) dL_law_415 (by decide) ?_
    refine z_icmp_ne (tgt := 481) dL_law_416 (by decide) (fun c416 => absurd rfl c416) (fun _ => ?_)
    show zS _ _ _ _ _ _ _ 419 _ _ _ _ _
    refine z_aload1 dL_law_419 ?_
    refine z_iconst (v := 0) dL_law_420 (by decide) ?_
    refine z_callV zmd_X11_keep rfl (by decide) zl_RL_107 zin_X11_keep zsel_X11_keep (O_keep0 (d := d - 1) hO (by omega) (by omega) (h26 (by decide)) hI.2.2.2) hO.inn rfl rfl (by omega) rfl dL_law_421 (fun r1 g1 f1 mc1 ms1 q1 => ?_)
    obtain ⟨rfl, hc1, hs1, h1, K1⟩ := q1
    rw [← eK] at h1
    have hP1 := hP.keepG hk' (K1.nn hcc hO.lo.1) (Or.inl hcc) h1.toB
    refine z_istore9 dL_law_424 ?_
    refine z_aload1 dL_law_426 ?_
    refine z_iconst (v := 0) dL_law_427 (by decide) ?_
    refine z_callVi zmd_X11_told rfl (by decide) zl_RL_49 zin_X11_told zsel_X11_told (O_told (d := d - 1) h1.toB (by omega) 0) h1.toB.inn rfl rfl (by omega) rfl dL_law_428 ?_
    refine z_istore10 dL_law_431 ?_
    refine z_aload1 dL_law_433 ?_
    refine z_callV zmd_X11_restart rfl (by decide) zl_RL_110 zin_X11_restart zsel_X11_restart (O_rest (d := d - 1) h1 (by omega) (by omega) (by rw [k2]; exact hI.2.2.1)) h1.toB.inn rfl rfl (by omega) rfl dL_law_434 (fun r2 g2 f2 mc2 ms2 q2 => ?_)
    obtain ⟨rfl, hc2, hs2, h2, K2⟩ := q2
    have hP2 := hP1.keepG hk' (K2.nn hcc hO.lo.1) (Or.inl hcc) h2.toB
    refine z_istore11 dL_law_437 ?_
    refine z_iload9 dL_law_439 ?_
    refine z_iload10 dL_law_441 ?_
    refine z_icmp_ne (tgt := 479) dL_law_443 (by decide) (fun c443 => absurd (congrFun k2 5).symm c443) (fun _ => ?_)
    show zS _ _ _ _ _ _ _ 446 _ _ _ _ _
    refine z_iload11 dL_law_446 ?_
    refine z_iload10 dL_law_448 ?_
    refine z_icmp_ne (tgt := 479) dL_law_450 (by decide) (fun c450 => absurd rfl c450) (fun _ => ?_)
    show zS _ _ _ _ _ _ _ 453 _ _ _ _ _
    refine z_aload1 dL_law_453 ?_
    refine z_iconst (v := 1) dL_law_454 (by decide) ?_
    refine z_callVi zmd_X11_told rfl (by decide) zl_RL_49 zin_X11_told zsel_X11_told (O_told (d := d - 1) h2.toB (by omega) 1) h2.toB.inn rfl rfl (by omega) rfl dL_law_455 ?_
    rw [t1]
    refine z_if_ne (tgt := 479) dL_law_458 (by decide) (fun c458 => absurd rfl c458) (fun _ => ?_)
    show zS _ _ _ _ _ _ _ 461 _ _ _ _ _
    refine z_aload1 dL_law_461 ?_
    refine z_iconst (v := 0) dL_law_462 (by decide) ?_
    refine z_callV zmd_X11_back rfl (by decide) zl_RL_113 zin_X11_back zsel_X11_back (O_back0 (d := d - 1) h2 (by omega) (by omega)) h2.toB.inn rfl rfl (by omega) rfl dL_law_463 (fun r3 g3 f3 mc3 ms3 q3 => ?_)
    obtain ⟨rfl, hc3, hs3, h3, K3⟩ := q3
    have hP3 := hP2.keepG hk' (K3.nn hcc hO.lo.1) (Or.inl hcc) h3.toB
    have h4 : OB b0 n0 c (k + 1 + 1 + 1) M g3 f3 := h3.toB.tbl (by omega) (fun r a b c => (p2 r a b c).symm) (fun j a => (p3 j a).symm)
    rw [p1]
    refine z_iload10 dL_law_466 ?_
    refine z_icmp_ne (tgt := 479) dL_law_468 (by decide) (fun c468 => absurd (congrFun k2 5).symm c468) (fun _ => ?_)
    show zS _ _ _ _ _ _ _ 471 _ _ _ _ _
    refine z_aload1 dL_law_471 ?_
    refine z_aload2 dL_law_472 ?_
    refine z_callSi zmd_L_areAlike zl_RL_103 zst_L_areAlike (L_areAlike (d := d - 1) h4 hP3 hs (by omega)) rfl rfl (by omega) rfl dL_law_473 ?_
    refine z_if_ne (tgt := 481) dL_law_476 (by decide) (fun _ => ?_) (fun c476 => absurd c476 (by decide))
    show zS _ _ _ _ _ _ _ 481 _ _ _ _ _
    exact zS.wide (by omega) (by omega) (hend g3 f3 (k + 1 + 1 + 1) _ _ _ (by omega) ⟨⟨h4, hP3, fun z => absurd z (by decide)⟩, hI, hw, hF⟩)
  · skip
    refine z_iload7 dL_law_413 ?_
    refine z_iconst (v := 5) dL_law_415 (by decide) ?_
    refine z_icmp_ne (tgt := 481) dL_law_416 (by decide) (fun _ => ?_) (fun c416 => absurd ((nI_eq (by omega) (by decide)).mp c416) q)
    show zS _ _ _ _ _ _ _ 481 _ _ _ _ _
    exact zS.wide (by omega) (by omega) (hend g f k _ _ _ (by omega) ⟨⟨hO, hP, fun z => h26 (by omega)⟩, hI, hw, hF⟩)
end L403
