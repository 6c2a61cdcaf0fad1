/-! The law's checks of one object. -/
def smM (M : zI) : Nat → Int32
  | 0 => 0
  | a + 1 => smM M a + M 2 (24 + a)
section LSN
variable {l : Launch} {d : Nat} {D : zD} {b0 n0 c c' k k' a : Nat} {g : zG} {f M : zI} {Q : Nat → Nat → zKT → Prop}
theorem L_snd1 (hO : OB b0 n0 c k M g f) (hs : SND M) (hd : 4 ≤ d) (hend : ∀ o3, zS l d D b0 mL_isSound 0 0 68 [some (.ref c), some (.int (smM M 6)), some (.int (nI 6)), o3, none, none] [] g f Q) : ∀ (n a : Nat) (o3 : Option Value), a + n = 6 → zS l d D b0 mL_isSound 0 0 4 [some (.ref c), some (.int (smM M a)), some (.int (nI a)), o3, none, none] [] g f Q := by
  intro n
  induction n with
  | zero =>
    intro a o3 ha
    obtain rfl : a = 6 := by omega
    refine z_iload2 dL_isSound_4 ?_
    refine z_bipush (v := 6) dL_isSound_5 (by decide) ?_
    refine z_icmp_ge (tgt := 68) dL_isSound_7 (by decide) (fun _ => ?_) (fun c7 => absurd c7 (by decide))
    show zS _ _ _ _ _ _ _ 68 _ _ _ _ _
    exact hend o3
  | succ n ih =>
    intro a o3 ha
    have ha6 : a < 6 := by omega
    have hp : pperfd M (nI a) = M 2 (24 + a) := by
      unfold pperfd
      rw [if_neg (fun z => z.elim (nI_nlt (b := 0) (by omega) (by omega)) (nI_nlt (a := 5) (by omega) (by omega))), tn_nI (by omega)]
    have h62 : ∀ o3, zS l d D b0 mL_isSound 0 0 62 [some (.ref c), some (.int (smM M (a + 1))), some (.int (nI a)), o3, none, none] [] g f Q := fun o3 => by
      refine z_iinc2 (y := 1) dL_isSound_62 (by decide) ?_
      refine z_goto (tgt := 4) dL_isSound_65 (by decide) ?_
      show zS _ _ _ _ _ _ _ 4 _ _ _ _ _
      rw [show nI a + 1 = nI (a + 1) from ixA rfl (ixC 1)]
      exact ih (a + 1) o3 (by omega)
    refine z_iload2 dL_isSound_4 ?_
    refine z_bipush (v := 6) dL_isSound_5 (by decide) ?_
    refine z_icmp_ge (tgt := 68) dL_isSound_7 (by decide) (fun c7 => absurd (nI_lt (b := 6) ha6 (by decide)) c7) (fun _ => ?_)
    show zS _ _ _ _ _ _ _ 10 _ _ _ _ _
    refine z_iload1 dL_isSound_10 ?_
    refine z_aload0 dL_isSound_11 ?_
    refine z_iload2 dL_isSound_12 ?_
    refine z_callVi zmd_X11_performed rfl (by decide) zl_RL_43 zin_X11_performed zsel_X11_performed (O_performed (d := d - 1) hO (by omega) _) hO.inn rfl rfl (by omega) rfl dL_isSound_13 ?_
    refine z_iadd dL_isSound_16 ?_
    rw [hp]
    refine z_istore1 dL_isSound_17 ?_
    refine z_aload0 dL_isSound_18 ?_
    refine z_iload2 dL_isSound_19 ?_
    refine z_callVi zmd_X11_handler rfl (by decide) zl_RL_46 zin_X11_handler zsel_X11_handler (O_handler (d := d - 1) hO (by omega) _) hO.inn rfl rfl (by omega) rfl dL_isSound_20 ?_
    refine z_istore3 dL_isSound_23 ?_
    rcases hs.1 a ha6 with hh | ⟨h1, h2, h3⟩
    · rw [hh]
      refine z_iload3 dL_isSound_24 ?_
      refine z_bipush (v := (-9)) dL_isSound_25 (by decide) ?_
      refine z_icmp_eq (tgt := 62) dL_isSound_27 (by decide) (fun _ => ?_) (fun c27 => absurd rfl c27)
      show zS _ _ _ _ _ _ _ 62 _ _ _ _ _
      exact h62 _
    · by_cases hh : phdl M (nI a) = -9
      · rw [hh]
        refine z_iload3 dL_isSound_24 ?_
        refine z_bipush (v := (-9)) dL_isSound_25 (by decide) ?_
        refine z_icmp_eq (tgt := 62) dL_isSound_27 (by decide) (fun _ => ?_) (fun c27 => absurd rfl c27)
        show zS _ _ _ _ _ _ _ 62 _ _ _ _ _
        exact h62 _
      refine z_iload3 dL_isSound_24 ?_
      refine z_bipush (v := (-9)) dL_isSound_25 (by decide) ?_
      refine z_icmp_eq (tgt := 62) dL_isSound_27 (by decide) (fun c27 => absurd c27 hh) (fun _ => ?_)
      show zS _ _ _ _ _ _ _ 30 _ _ _ _ _
      refine z_iload3 dL_isSound_30 ?_
      refine z_aload0 dL_isSound_31 ?_
      refine z_iconst (v := 2) dL_isSound_32 (by decide) ?_
      refine z_callVi zmd_X11_told rfl (by decide) zl_RL_49 zin_X11_told zsel_X11_told (O_told (d := d - 1) hO (by omega) 2) hO.inn rfl rfl (by omega) rfl dL_isSound_33 ?_
      refine z_icmp_ge (tgt := 60) dL_isSound_36 (by decide) (fun c36 => absurd h1 c36) (fun _ => ?_)
      show zS _ _ _ _ _ _ _ 39 _ _ _ _ _
      refine z_aload0 dL_isSound_39 ?_
      refine z_iload3 dL_isSound_40 ?_
      refine z_iconst (v := 0) dL_isSound_41 (by decide) ?_
      refine z_callVi zmd_X11_frame rfl (by decide) zl_RL_52 zin_X11_frame zsel_X11_frame (O_frame (d := d - 1) hO (by omega) _ _) hO.inn rfl rfl (by omega) rfl dL_isSound_42 ?_
      refine z_bipush (v := 12) dL_isSound_45 (by decide) ?_
      refine z_icmp_ne (tgt := 60) dL_isSound_47 (by decide) (fun c47 => absurd h2 c47) (fun _ => ?_)
      show zS _ _ _ _ _ _ _ 50 _ _ _ _ _
      refine z_aload0 dL_isSound_50 ?_
      refine z_iload3 dL_isSound_51 ?_
      refine z_iconst (v := 1) dL_isSound_52 (by decide) ?_
      refine z_callVi zmd_X11_frame rfl (by decide) zl_RL_52 zin_X11_frame zsel_X11_frame (O_frame (d := d - 1) hO (by omega) _ _) hO.inn rfl rfl (by omega) rfl dL_isSound_53 ?_
      refine z_iconst (v := 1) dL_isSound_56 (by decide) ?_
      refine z_icmp_ge (tgt := 62) dL_isSound_57 (by decide) (fun _ => ?_) (fun c57 => absurd c57 h3)
      show zS _ _ _ _ _ _ _ 62 _ _ _ _ _
      exact h62 _
theorem L_snd2 (hO : OB b0 n0 c k M g f) (hd : 4 ≤ d) {dd : Nat} (hdd : dd ≤ 100) (e2 : ptold M 2 = nI dd) (hk : ∀ k, k < dd → ∃ κ, 1 ≤ κ ∧ κ ≤ 14 ∧ pframe M (nI k) 0 = nI κ ∧ (κ = 9 → pframe M (nI k) 1 = 0 ∨ pframe M (nI k) 1 = 1)) {s1 st : Int32} (hend : ∀ o5, zS l d D b0 mL_isSound 0 0 348 [some (.ref c), some (.int s1), some (.int st), some (.int 1), some (.int (nI dd)), o5] [] g f Q) : ∀ (n k : Nat) (o5 : Option Value), k + n = dd → zS l d D b0 mL_isSound 0 0 272 [some (.ref c), some (.int s1), some (.int st), some (.int 1), some (.int (nI k)), o5] [] g f Q := by
  intro n
  induction n with
  | zero =>
    intro k o5 ha
    obtain rfl : k = dd := by omega
    refine z_iload4 dL_isSound_272 ?_
    refine z_aload0 dL_isSound_274 ?_
    refine z_iconst (v := 2) dL_isSound_275 (by decide) ?_
    refine z_callVi zmd_X11_told rfl (by decide) zl_RL_49 zin_X11_told zsel_X11_told (O_told (d := d - 1) hO (by omega) 2) hO.inn rfl rfl (by omega) rfl dL_isSound_276 ?_
    rw [e2]
    refine z_icmp_ge (tgt := 348) dL_isSound_279 (by decide) (fun _ => ?_) (fun c279 => absurd c279 (nI_nlt (Nat.le_refl _) (by omega)))
    show zS _ _ _ _ _ _ _ 348 _ _ _ _ _
    exact hend o5
  | succ n ih =>
    intro k o5 ha
    obtain ⟨κ, q1, q2, q3, q4⟩ := hk k (by omega)
    have h336 : ∀ o5, zS l d D b0 mL_isSound 0 0 336 [some (.ref c), some (.int s1), some (.int st), some (.int 1), some (.int (nI k)), o5] [] g f Q := fun o5 => by
      refine z_iconst (v := 1) dL_isSound_336 (by decide) ?_
      refine z_goto (tgt := 341) dL_isSound_337 (by decide) ?_
      show zS _ _ _ _ _ _ _ 341 _ _ _ _ _
      refine z_istore3 dL_isSound_341 ?_
      refine z_iinc4 (y := 1) dL_isSound_342 (by decide) ?_
      refine z_goto (tgt := 272) dL_isSound_345 (by decide) ?_
      show zS _ _ _ _ _ _ _ 272 _ _ _ _ _
      rw [show nI k + 1 = nI (k + 1) from ixA rfl (ixC 1)]
      exact ih (k + 1) o5 (by omega)
    refine z_iload4 dL_isSound_272 ?_
    refine z_aload0 dL_isSound_274 ?_
    refine z_iconst (v := 2) dL_isSound_275 (by decide) ?_
    refine z_callVi zmd_X11_told rfl (by decide) zl_RL_49 zin_X11_told zsel_X11_told (O_told (d := d - 1) hO (by omega) 2) hO.inn rfl rfl (by omega) rfl dL_isSound_276 ?_
    rw [e2]
    refine z_icmp_ge (tgt := 348) dL_isSound_279 (by decide) (fun c279 => absurd (nI_lt (by omega) (by omega)) c279) (fun _ => ?_)
    show zS _ _ _ _ _ _ _ 282 _ _ _ _ _
    refine z_aload0 dL_isSound_282 ?_
    refine z_iload4 dL_isSound_283 ?_
    refine z_iconst (v := 0) dL_isSound_285 (by decide) ?_
    refine z_callVi zmd_X11_frame rfl (by decide) zl_RL_52 zin_X11_frame zsel_X11_frame (O_frame (d := d - 1) hO (by omega) _ _) hO.inn rfl rfl (by omega) rfl dL_isSound_286 ?_
    rw [show pframe M (nI k) 0 = nI κ from q3]
    refine z_istore5 dL_isSound_289 ?_
    refine z_iload3 dL_isSound_291 ?_
    refine z_if_eq (tgt := 340) dL_isSound_292 (by decide) (fun c292 => absurd c292 (by decide)) (fun _ => ?_)
    show zS _ _ _ _ _ _ _ 295 _ _ _ _ _
    refine z_iload5 dL_isSound_295 ?_
    refine z_iconst (v := 1) dL_isSound_297 (by decide) ?_
    refine z_icmp_lt (tgt := 340) dL_isSound_298 (by decide) (fun c298 => absurd c298 (nI_nlt (b := 1) q1 (by omega))) (fun _ => ?_)
    show zS _ _ _ _ _ _ _ 301 _ _ _ _ _
    refine z_iload5 dL_isSound_301 ?_
    refine z_bipush (v := 14) dL_isSound_303 (by decide) ?_
    refine z_icmp_gt (tgt := 340) dL_isSound_305 (by decide) (fun c305 => absurd c305 (nI_nlt (a := 14) (by omega) (by omega))) (fun _ => ?_)
    show zS _ _ _ _ _ _ _ 308 _ _ _ _ _
    by_cases h9 : κ = 9
    · subst h9
      refine z_iload5 dL_isSound_308 ?_
      refine z_bipush (v := 9) dL_isSound_310 (by decide) ?_
      refine z_icmp_ne (tgt := 336) dL_isSound_312 (by decide) (fun c312 => absurd rfl c312) (fun _ => ?_)
      show zS _ _ _ _ _ _ _ 315 _ _ _ _ _
      have q5 := q4 rfl
      refine z_aload0 dL_isSound_315 ?_
      refine z_iload4 dL_isSound_316 ?_
      refine z_iconst (v := 1) dL_isSound_318 (by decide) ?_
      refine z_callVi zmd_X11_frame rfl (by decide) zl_RL_52 zin_X11_frame zsel_X11_frame (O_frame (d := d - 1) hO (by omega) _ _) hO.inn rfl rfl (by omega) rfl dL_isSound_319 ?_
      refine z_if_lt (tgt := 340) dL_isSound_322 (by decide) (fun c322 => absurd c322 (by rcases q5 with q | q <;> (rw [q]; decide))) (fun _ => ?_)
      show zS _ _ _ _ _ _ _ 325 _ _ _ _ _
      refine z_aload0 dL_isSound_325 ?_
      refine z_iload4 dL_isSound_326 ?_
      refine z_iconst (v := 1) dL_isSound_328 (by decide) ?_
      refine z_callVi zmd_X11_frame rfl (by decide) zl_RL_52 zin_X11_frame zsel_X11_frame (O_frame (d := d - 1) hO (by omega) _ _) hO.inn rfl rfl (by omega) rfl dL_isSound_329 ?_
      refine z_iconst (v := 1) dL_isSound_332 (by decide) ?_
      refine z_icmp_gt (tgt := 340) dL_isSound_333 (by decide) (fun c333 => absurd c333 (by rcases q5 with q | q <;> (rw [q]; decide))) (fun _ => ?_)
      show zS _ _ _ _ _ _ _ 336 _ _ _ _ _
      exact h336 _
    · refine z_iload5 dL_isSound_308 ?_
      refine z_bipush (v := 9) dL_isSound_310 (by decide) ?_
      refine z_icmp_ne (tgt := 336) dL_isSound_312 (by decide) (fun _ => ?_) (fun c => absurd ((nI_eq (b := 9) (by omega) (by decide)).mp c) h9)
      show zS _ _ _ _ _ _ _ 336 _ _ _ _ _
      exact h336 _
theorem L_isSound (hO : OB b0 n0 c k M g f) (hs : SND M) (hd : 4 ≤ d) : zM l d D b0 mL_isSound [.ref c] g f (zEx (some (.int 1)) g f) := by
  obtain ⟨s1, s2, ⟨s3, s4, s5, s6, s7, s8⟩, ⟨u1, u2, u3, u4⟩, ⟨dd, v1, v2, v3, v4⟩, tt, w1, w2, w3⟩ := id hs
  refine zM.start zmd_L_isSound (Nat.le_of_ble_eq_true rfl) ⟨rfl, trivial⟩ [some (.ref c), none, none, none, none, none] rfl ?_
  refine z_iconst (v := 0) dL_isSound_0 (by decide) ?_
  refine z_istore1 dL_isSound_1 ?_
  refine z_iconst (v := 0) dL_isSound_2 (by decide) ?_
  refine z_istore2 dL_isSound_3 ?_
  refine L_snd1 hO hs hd (fun o3 => ?_) 6 0 none rfl
  -- from the end on
  have h269 : ∀ o3 o4 o5, zS l d D b0 mL_isSound 0 0 268 [some (.ref c), some (.int (smM M 6)), some (.int (ptold M 0)), o3, o4, o5] [.int 1] g f (zq D b0 (zEx (some (.int 1)) g f)) := fun o3 o4 o5 => by
    refine z_istore3 dL_isSound_268 ?_
    refine z_iconst (v := 0) dL_isSound_269 (by decide) ?_
    refine z_istore4 dL_isSound_270 ?_
    refine L_snd2 hO hd v1 v2 v4 (fun o5 => ?_) dd 0 o5 (Nat.zero_add _)
    refine z_iload3 dL_isSound_348 ?_
    refine z_if_eq (tgt := 384) dL_isSound_349 (by decide) (fun c349 => absurd c349 (by decide)) (fun _ => ?_)
    show zS _ _ _ _ _ _ _ 352 _ _ _ _ _
    refine z_aload0 dL_isSound_352 ?_
    refine z_aload0 dL_isSound_353 ?_
    refine z_iconst (v := 2) dL_isSound_354 (by decide) ?_
    refine z_callVi zmd_X11_told rfl (by decide) zl_RL_49 zin_X11_told zsel_X11_told (O_told (d := d - 1) hO (by omega) 2) hO.inn rfl rfl (by omega) rfl dL_isSound_355 ?_
    rw [v2]
    refine z_iconst (v := 0) dL_isSound_358 (by decide) ?_
    refine z_callVi zmd_X11_frame rfl (by decide) zl_RL_52 zin_X11_frame zsel_X11_frame (O_frame (d := d - 1) hO (by omega) _ _) hO.inn rfl rfl (by omega) rfl dL_isSound_359 ?_
    refine z_iconst (v := (-1)) dL_isSound_362 (by decide) ?_
    refine z_icmp_ne (tgt := 384) dL_isSound_363 (by decide) (fun c363 => absurd v3 c363) (fun _ => ?_)
    show zS _ _ _ _ _ _ _ 366 _ _ _ _ _
    refine z_aload0 dL_isSound_366 ?_
    refine z_aload0 dL_isSound_367 ?_
    refine z_iconst (v := 4) dL_isSound_368 (by decide) ?_
    refine z_callVi zmd_X11_told rfl (by decide) zl_RL_49 zin_X11_told zsel_X11_told (O_told (d := d - 1) hO (by omega) 4) hO.inn rfl rfl (by omega) rfl dL_isSound_369 ?_
    rw [w2]
    refine z_callVi zmd_X11_trace rfl (by decide) zl_RL_58 zin_X11_trace zsel_X11_trace (O_trace (d := d - 1) hO _) hO.inn rfl rfl (by omega) rfl dL_isSound_372 ?_
    refine z_bipush (v := (-9)) dL_isSound_375 (by decide) ?_
    refine z_icmp_ne (tgt := 384) dL_isSound_377 (by decide) (fun c377 => absurd w3 c377) (fun _ => ?_)
    show zS _ _ _ _ _ _ _ 380 _ _ _ _ _
    refine z_iconst (v := 1) dL_isSound_380 (by decide) ?_
    refine z_goto (tgt := 385) dL_isSound_381 (by decide) ?_
    show zS _ _ _ _ _ _ _ 385 _ _ _ _ _
    refine z_iret dL_isSound_385 rfl ?_
    exact ⟨rfl, rfl, rfl, rfl, rfl⟩
  have h263 : ∀ o3 o4 o5, zS l d D b0 mL_isSound 0 0 263 [some (.ref c), some (.int (smM M 6)), some (.int (ptold M 0)), o3, o4, o5] [] g f (zq D b0 (zEx (some (.int 1)) g f)) := fun o3 o4 o5 => by
    refine z_iconst (v := 1) dL_isSound_263 (by decide) ?_
    refine z_goto (tgt := 268) dL_isSound_264 (by decide) ?_
    show zS _ _ _ _ _ _ _ 268 _ _ _ _ _
    exact h269 _ _ _
  have h247 : ∀ o3 o4 o5, zS l d D b0 mL_isSound 0 0 247 [some (.ref c), some (.int (smM M 6)), some (.int (ptold M 0)), o3, o4, o5] [] g f (zq D b0 (zEx (some (.int 1)) g f)) := fun o3 o4 o5 => by
    by_cases q : ptold M 0 = 5
    · have q2 := u4 q
      refine z_iload2 dL_isSound_247 ?_
      refine z_iconst (v := 5) dL_isSound_248 (by decide) ?_
      refine z_icmp_ne (tgt := 263) dL_isSound_249 (by decide) (fun c249 => absurd q c249) (fun _ => ?_)
      show zS _ _ _ _ _ _ _ 252 _ _ _ _ _
      refine z_aload0 dL_isSound_252 ?_
      refine z_iconst (v := 1) dL_isSound_253 (by decide) ?_
      refine z_callVi zmd_X11_told rfl (by decide) zl_RL_49 zin_X11_told zsel_X11_told (O_told (d := d - 1) hO (by omega) 1) hO.inn rfl rfl (by omega) rfl dL_isSound_254 ?_
      refine z_sipush (v := 1000) dL_isSound_257 (by decide) ?_
      refine z_icmp_ne (tgt := 267) dL_isSound_260 (by decide) (fun c260 => absurd q2 c260) (fun _ => ?_)
      show zS _ _ _ _ _ _ _ 263 _ _ _ _ _
      exact h263 _ _ _
    · have q2 : ¬ ptold M 0 = 5 := q
      refine z_iload2 dL_isSound_247 ?_
      refine z_iconst (v := 5) dL_isSound_248 (by decide) ?_
      refine z_icmp_ne (tgt := 263) dL_isSound_249 (by decide) (fun _ => ?_) (fun c249 => absurd c249 q2)
      show zS _ _ _ _ _ _ _ 263 _ _ _ _ _
      exact h263 _ _ _
  have h234 : ∀ o3 o4 o5, zS l d D b0 mL_isSound 0 0 234 [some (.ref c), some (.int (smM M 6)), some (.int (ptold M 0)), o3, o4, o5] [] g f (zq D b0 (zEx (some (.int 1)) g f)) := fun o3 o4 o5 => by
    by_cases q : ptold M 0 = 2
    · have q2 := u3 q
      refine z_iload2 dL_isSound_234 ?_
      refine z_iconst (v := 2) dL_isSound_235 (by decide) ?_
      refine z_icmp_ne (tgt := 247) dL_isSound_236 (by decide) (fun c236 => absurd q c236) (fun _ => ?_)
      show zS _ _ _ _ _ _ _ 239 _ _ _ _ _
      refine z_aload0 dL_isSound_239 ?_
      refine z_iconst (v := 2) dL_isSound_240 (by decide) ?_
      refine z_callVi zmd_X11_told rfl (by decide) zl_RL_49 zin_X11_told zsel_X11_told (O_told (d := d - 1) hO (by omega) 2) hO.inn rfl rfl (by omega) rfl dL_isSound_241 ?_
      refine z_if_ne (tgt := 267) dL_isSound_244 (by decide) (fun c244 => absurd q2 c244) (fun _ => ?_)
      show zS _ _ _ _ _ _ _ 247 _ _ _ _ _
      exact h247 _ _ _
    · have q2 : ¬ ptold M 0 = 2 := q
      refine z_iload2 dL_isSound_234 ?_
      refine z_iconst (v := 2) dL_isSound_235 (by decide) ?_
      refine z_icmp_ne (tgt := 247) dL_isSound_236 (by decide) (fun _ => ?_) (fun c236 => absurd c236 q2)
      show zS _ _ _ _ _ _ _ 247 _ _ _ _ _
      exact h247 _ _ _
  have h209 : ∀ o3 o4 o5, zS l d D b0 mL_isSound 0 0 209 [some (.ref c), some (.int (smM M 6)), some (.int (ptold M 0)), o3, o4, o5] [] g f (zq D b0 (zEx (some (.int 1)) g f)) := fun o3 o4 o5 => by
    by_cases q : ptold M 0 = 1
    · have q2 : ¬ pfocus M = 0 := fun z => u2.mp z q
      refine z_aload0 dL_isSound_209 ?_
      refine z_callVi zmd_X11_focus rfl (by decide) zl_RL_55 zin_X11_focus zsel_X11_focus (O_focus (d := d - 1) hO) hO.inn rfl rfl (by omega) rfl dL_isSound_210 ?_
      refine z_if_eq (tgt := 220) dL_isSound_213 (by decide) (fun c213 => absurd c213 q2) (fun _ => ?_)
      show zS _ _ _ _ _ _ _ 216 _ _ _ _ _
      refine z_iconst (v := 1) dL_isSound_216 (by decide) ?_
      refine z_goto (tgt := 221) dL_isSound_217 (by decide) ?_
      show zS _ _ _ _ _ _ _ 221 _ _ _ _ _
      refine z_iload2 dL_isSound_221 ?_
      refine z_iconst (v := 1) dL_isSound_222 (by decide) ?_
      refine z_icmp_ne (tgt := 230) dL_isSound_223 (by decide) (fun c223 => absurd q c223) (fun _ => ?_)
      show zS _ _ _ _ _ _ _ 226 _ _ _ _ _
      refine z_iconst (v := 1) dL_isSound_226 (by decide) ?_
      refine z_goto (tgt := 231) dL_isSound_227 (by decide) ?_
      show zS _ _ _ _ _ _ _ 231 _ _ _ _ _
      refine z_icmp_ne (tgt := 267) dL_isSound_231 (by decide) (fun c231 => absurd rfl c231) (fun _ => ?_)
      show zS _ _ _ _ _ _ _ 234 _ _ _ _ _
      exact h234 _ _ _
    · have q2 : pfocus M = 0 := u2.mpr q
      refine z_aload0 dL_isSound_209 ?_
      refine z_callVi zmd_X11_focus rfl (by decide) zl_RL_55 zin_X11_focus zsel_X11_focus (O_focus (d := d - 1) hO) hO.inn rfl rfl (by omega) rfl dL_isSound_210 ?_
      refine z_if_eq (tgt := 220) dL_isSound_213 (by decide) (fun _ => ?_) (fun c213 => absurd q2 c213)
      show zS _ _ _ _ _ _ _ 220 _ _ _ _ _
      refine z_iconst (v := 0) dL_isSound_220 (by decide) ?_
      refine z_iload2 dL_isSound_221 ?_
      refine z_iconst (v := 1) dL_isSound_222 (by decide) ?_
      refine z_icmp_ne (tgt := 230) dL_isSound_223 (by decide) (fun _ => ?_) (fun c223 => absurd c223 q)
      show zS _ _ _ _ _ _ _ 230 _ _ _ _ _
      refine z_iconst (v := 0) dL_isSound_230 (by decide) ?_
      refine z_icmp_ne (tgt := 267) dL_isSound_231 (by decide) (fun c231 => absurd rfl c231) (fun _ => ?_)
      show zS _ _ _ _ _ _ _ 234 _ _ _ _ _
      exact h234 _ _ _
  have h170 : ∀ o3 o4 o5, zS l d D b0 mL_isSound 0 0 170 [some (.ref c), some (.int (smM M 6)), some (.int (ptold M 0)), o3, o4, o5] [] g f (zq D b0 (zEx (some (.int 1)) g f)) := fun o3 o4 o5 => by
    refine z_iconst (v := 1) dL_isSound_170 (by decide) ?_
    refine z_goto (tgt := 175) dL_isSound_171 (by decide) ?_
    show zS _ _ _ _ _ _ _ 175 _ _ _ _ _
    refine z_istore3 dL_isSound_175 ?_
    refine z_iload3 dL_isSound_176 ?_
    refine z_if_eq (tgt := 267) dL_isSound_177 (by decide) (fun c177 => absurd c177 (by decide)) (fun _ => ?_)
    show zS _ _ _ _ _ _ _ 180 _ _ _ _ _
    by_cases q : ptold M 0 = 3
    · have q2 : ¬ ptold M 10 = -9 := fun z => u1.mp z q
      refine z_aload0 dL_isSound_180 ?_
      refine z_bipush (v := 10) dL_isSound_181 (by decide) ?_
      refine z_callVi zmd_X11_told rfl (by decide) zl_RL_49 zin_X11_told zsel_X11_told (O_told (d := d - 1) hO (by omega) 10) hO.inn rfl rfl (by omega) rfl dL_isSound_183 ?_
      refine z_bipush (v := (-9)) dL_isSound_186 (by decide) ?_
      refine z_icmp_eq (tgt := 195) dL_isSound_188 (by decide) (fun c188 => absurd c188 q2) (fun _ => ?_)
      show zS _ _ _ _ _ _ _ 191 _ _ _ _ _
      refine z_iconst (v := 1) dL_isSound_191 (by decide) ?_
      refine z_goto (tgt := 196) dL_isSound_192 (by decide) ?_
      show zS _ _ _ _ _ _ _ 196 _ _ _ _ _
      refine z_iload2 dL_isSound_196 ?_
      refine z_iconst (v := 3) dL_isSound_197 (by decide) ?_
      refine z_icmp_ne (tgt := 205) dL_isSound_198 (by decide) (fun c198 => absurd q c198) (fun _ => ?_)
      show zS _ _ _ _ _ _ _ 201 _ _ _ _ _
      refine z_iconst (v := 1) dL_isSound_201 (by decide) ?_
      refine z_goto (tgt := 206) dL_isSound_202 (by decide) ?_
      show zS _ _ _ _ _ _ _ 206 _ _ _ _ _
      refine z_icmp_ne (tgt := 267) dL_isSound_206 (by decide) (fun c206 => absurd rfl c206) (fun _ => ?_)
      show zS _ _ _ _ _ _ _ 209 _ _ _ _ _
      exact h209 _ _ _
    · have q2 : ptold M 10 = -9 := u1.mpr q
      refine z_aload0 dL_isSound_180 ?_
      refine z_bipush (v := 10) dL_isSound_181 (by decide) ?_
      refine z_callVi zmd_X11_told rfl (by decide) zl_RL_49 zin_X11_told zsel_X11_told (O_told (d := d - 1) hO (by omega) 10) hO.inn rfl rfl (by omega) rfl dL_isSound_183 ?_
      refine z_bipush (v := (-9)) dL_isSound_186 (by decide) ?_
      refine z_icmp_eq (tgt := 195) dL_isSound_188 (by decide) (fun _ => ?_) (fun c188 => absurd q2 c188)
      show zS _ _ _ _ _ _ _ 195 _ _ _ _ _
      refine z_iconst (v := 0) dL_isSound_195 (by decide) ?_
      refine z_iload2 dL_isSound_196 ?_
      refine z_iconst (v := 3) dL_isSound_197 (by decide) ?_
      refine z_icmp_ne (tgt := 205) dL_isSound_198 (by decide) (fun _ => ?_) (fun c198 => absurd c198 q)
      show zS _ _ _ _ _ _ _ 205 _ _ _ _ _
      refine z_iconst (v := 0) dL_isSound_205 (by decide) ?_
      refine z_icmp_ne (tgt := 267) dL_isSound_206 (by decide) (fun c206 => absurd rfl c206) (fun _ => ?_)
      show zS _ _ _ _ _ _ _ 209 _ _ _ _ _
      exact h209 _ _ _
  have h158 : ∀ o3 o4 o5, zS l d D b0 mL_isSound 0 0 158 [some (.ref c), some (.int (smM M 6)), some (.int (ptold M 0)), o3, o4, o5] [.int (if ptold M 0 = 3 then 1 else 0), .int (ptold M 6)] g f (zq D b0 (zEx (some (.int 1)) g f)) := fun o3 o4 o5 => by
    refine z_iadd dL_isSound_158 ?_
    refine z_aload0 dL_isSound_159 ?_
    refine z_iconst (v := 5) dL_isSound_160 (by decide) ?_
    refine z_callVi zmd_X11_told rfl (by decide) zl_RL_49 zin_X11_told zsel_X11_told (O_told (d := d - 1) hO (by omega) 5) hO.inn rfl rfl (by omega) rfl dL_isSound_161 ?_
    refine z_bipush (v := 30) dL_isSound_164 (by decide) ?_
    refine z_iadd dL_isSound_166 ?_
    refine z_icmp_gt (tgt := 174) dL_isSound_167 (by decide) (fun c167 => absurd c167 s8) (fun _ => ?_)
    show zS _ _ _ _ _ _ _ 170 _ _ _ _ _
    exact h170 _ _ _
  refine z_aload0 dL_isSound_68 ?_
  refine z_iconst (v := 0) dL_isSound_69 (by decide) ?_
  refine z_callVi zmd_X11_told rfl (by decide) zl_RL_49 zin_X11_told zsel_X11_told (O_told (d := d - 1) hO (by omega) 0) hO.inn rfl rfl (by omega) rfl dL_isSound_70 ?_
  refine z_istore2 dL_isSound_73 ?_
  refine z_iload1 dL_isSound_74 ?_
  refine z_aload0 dL_isSound_75 ?_
  refine z_iconst (v := 5) dL_isSound_76 (by decide) ?_
  refine z_callVi zmd_X11_told rfl (by decide) zl_RL_49 zin_X11_told zsel_X11_told (O_told (d := d - 1) hO (by omega) 5) hO.inn rfl rfl (by omega) rfl dL_isSound_77 ?_
  refine z_icmp_ne (tgt := 174) dL_isSound_80 (by decide) (fun c80 => absurd s2 c80) (fun _ => ?_)
  show zS _ _ _ _ _ _ _ 83 _ _ _ _ _
  refine z_aload0 dL_isSound_83 ?_
  refine z_iconst (v := 2) dL_isSound_84 (by decide) ?_
  refine z_callVi zmd_X11_told rfl (by decide) zl_RL_49 zin_X11_told zsel_X11_told (O_told (d := d - 1) hO (by omega) 2) hO.inn rfl rfl (by omega) rfl dL_isSound_85 ?_
  refine z_aload0 dL_isSound_88 ?_
  refine z_iconst (v := 3) dL_isSound_89 (by decide) ?_
  refine z_callVi zmd_X11_told rfl (by decide) zl_RL_49 zin_X11_told zsel_X11_told (O_told (d := d - 1) hO (by omega) 3) hO.inn rfl rfl (by omega) rfl dL_isSound_90 ?_
  refine z_icmp_gt (tgt := 174) dL_isSound_93 (by decide) (fun c93 => absurd c93 s3) (fun _ => ?_)
  show zS _ _ _ _ _ _ _ 96 _ _ _ _ _
  refine z_aload0 dL_isSound_96 ?_
  refine z_iconst (v := 3) dL_isSound_97 (by decide) ?_
  refine z_callVi zmd_X11_told rfl (by decide) zl_RL_49 zin_X11_told zsel_X11_told (O_told (d := d - 1) hO (by omega) 3) hO.inn rfl rfl (by omega) rfl dL_isSound_98 ?_
  refine z_bipush (v := 100) dL_isSound_101 (by decide) ?_
  refine z_icmp_gt (tgt := 174) dL_isSound_103 (by decide) (fun c103 => absurd c103 s4) (fun _ => ?_)
  show zS _ _ _ _ _ _ _ 106 _ _ _ _ _
  refine z_aload0 dL_isSound_106 ?_
  refine z_iconst (v := 1) dL_isSound_107 (by decide) ?_
  refine z_callVi zmd_X11_told rfl (by decide) zl_RL_49 zin_X11_told zsel_X11_told (O_told (d := d - 1) hO (by omega) 1) hO.inn rfl rfl (by omega) rfl dL_isSound_108 ?_
  refine z_sipush (v := 1000) dL_isSound_111 (by decide) ?_
  refine z_icmp_gt (tgt := 174) dL_isSound_114 (by decide) (fun c114 => absurd c114 s5) (fun _ => ?_)
  show zS _ _ _ _ _ _ _ 117 _ _ _ _ _
  refine z_aload0 dL_isSound_117 ?_
  refine z_iconst (v := 4) dL_isSound_118 (by decide) ?_
  refine z_callVi zmd_X11_told rfl (by decide) zl_RL_49 zin_X11_told zsel_X11_told (O_told (d := d - 1) hO (by omega) 4) hO.inn rfl rfl (by omega) rfl dL_isSound_119 ?_
  refine z_bipush (v := 60) dL_isSound_122 (by decide) ?_
  refine z_icmp_gt (tgt := 174) dL_isSound_124 (by decide) (fun c124 => absurd c124 s6) (fun _ => ?_)
  show zS _ _ _ _ _ _ _ 127 _ _ _ _ _
  refine z_aload0 dL_isSound_127 ?_
  refine z_bipush (v := 8) dL_isSound_128 (by decide) ?_
  refine z_callVi zmd_X11_told rfl (by decide) zl_RL_49 zin_X11_told zsel_X11_told (O_told (d := d - 1) hO (by omega) 8) hO.inn rfl rfl (by omega) rfl dL_isSound_130 ?_
  refine z_aload0 dL_isSound_133 ?_
  refine z_bipush (v := 7) dL_isSound_134 (by decide) ?_
  refine z_callVi zmd_X11_told rfl (by decide) zl_RL_49 zin_X11_told zsel_X11_told (O_told (d := d - 1) hO (by omega) 7) hO.inn rfl rfl (by omega) rfl dL_isSound_136 ?_
  refine z_icmp_gt (tgt := 174) dL_isSound_139 (by decide) (fun c139 => absurd c139 s7) (fun _ => ?_)
  show zS _ _ _ _ _ _ _ 142 _ _ _ _ _
  refine z_aload0 dL_isSound_142 ?_
  refine z_bipush (v := 6) dL_isSound_143 (by decide) ?_
  refine z_callVi zmd_X11_told rfl (by decide) zl_RL_49 zin_X11_told zsel_X11_told (O_told (d := d - 1) hO (by omega) 6) hO.inn rfl rfl (by omega) rfl dL_isSound_145 ?_
  by_cases q : ptold M 0 = 3
  · have h := h158 o3 none none
    rw [if_pos q] at h
    refine z_iload2 dL_isSound_148 ?_
    refine z_iconst (v := 3) dL_isSound_149 (by decide) ?_
    refine z_icmp_ne (tgt := 157) dL_isSound_150 (by decide) (fun c150 => absurd q c150) (fun _ => ?_)
    show zS _ _ _ _ _ _ _ 153 _ _ _ _ _
    refine z_iconst (v := 1) dL_isSound_153 (by decide) ?_
    refine z_goto (tgt := 158) dL_isSound_154 (by decide) ?_
    show zS _ _ _ _ _ _ _ 158 _ _ _ _ _
    exact h
  · have h := h158 o3 none none
    rw [if_neg q] at h
    refine z_iload2 dL_isSound_148 ?_
    refine z_iconst (v := 3) dL_isSound_149 (by decide) ?_
    refine z_icmp_ne (tgt := 157) dL_isSound_150 (by decide) (fun _ => ?_) (fun c150 => absurd c150 q)
    show zS _ _ _ _ _ _ _ 157 _ _ _ _ _
    refine z_iconst (v := 0) dL_isSound_157 (by decide) ?_
    exact h
end LSN
