/-! The law's writer: what it writes, by the numbers that select; its stack in the array. -/
def hbS (b : Int32) (mf : Bool) (q nm z dg z4 o : Nat) : List Nat :=
  if q < 2 then (if (b >>> (nI (23 + nm) &&& 31)) &&& 1 = 1 then [120 + nm] else [48 + dg, 32]) else if q = 2 then [if z = 0 then 43 else 45] else if q = 3 then [if z = 0 then 59 else 37] else if q = 4 then [61, 120 + nm] else
  if q < 7 then [if z4 = 0 then 126 else 94, 65 + o] else if q = 7 then [33] else if q = 8 then [38, 48 + z] else if q = 9 then [63] else if q < 12 then (if mf = true then [64] else [49, 32]) else [123]
def hiS (b : Int32) (mf : Bool) (q nm o : Nat) : List WIt :=
  if q < 2 then [] else if q < 4 then [itE b mf, itE b mf] else if q = 4 then [itE b mf, itE (b ||| (1 <<< (nI (23 + nm) &&& 31))) mf] else
  if q < 9 then [itE b mf] else if q = 9 then [itE b mf, itE b mf, itE b mf] else if q < 12 then (if mf = true then [itE b mf] else []) else itE b mf :: clsI o nm b []
theorem hS_HDs {b : Int32} {mf : Bool} {tr q nm z dg z4 o : Nat} (hn : nm < 3) (hz : z < 2) (hd : dg < 10) (ho : o < 3) (hq : 14 ≤ tr → q = 0) : HDs b mf tr (hbS b mf q nm z dg z4 o) (hiS b mf q nm o) := by
  have lf : q < 2 → HDs b mf tr (hbS b mf q nm z dg z4 o) (hiS b mf q nm o) := fun h => by
    left
    unfold hbS hiS
    rw [if_pos h, if_pos h]
    refine ⟨rfl, ?_⟩
    by_cases q1 : (b >>> (nI (23 + nm) &&& 31)) &&& 1 = 1
    · rw [if_pos q1]
      exact Or.inr ⟨nm, hn, (ml_test (by omega)).1.mp q1, rfl⟩
    · rw [if_neg q1]
      exact Or.inl ⟨dg, hd, rfl⟩
  by_cases h2 : q < 2
  · exact lf h2
  have ht : tr < 14 := by
    rcases Nat.lt_or_ge tr 14 with y | y
    · exact y
    · have := hq y; omega
  unfold hbS hiS
  rw [if_neg h2, if_neg h2]
  by_cases e2 : q = 2
  · subst e2
    refine Or.inr ⟨ht, if z = 0 then 2 else 3, 0, [], 0, ?_⟩
    by_cases hz0 : z = 0
    · rw [if_pos hz0]
      exact ⟨by decide, by decide, fun y => absurd y (by decide), Or.inr (Or.inr (Or.inr ⟨by decide, by decide, by decide, by decide, rfl, rfl⟩)), by rw [if_pos rfl, if_pos hz0]; rfl, Or.inr ⟨by decide, rfl⟩⟩
    · rw [if_neg hz0]
      exact ⟨by decide, by decide, fun y => absurd y (by decide), Or.inr (Or.inr (Or.inr ⟨by decide, by decide, by decide, by decide, rfl, rfl⟩)), by rw [if_pos rfl, if_neg hz0]; rfl, Or.inr ⟨by decide, rfl⟩⟩
  rw [if_neg e2]
  by_cases e3 : q = 3
  · subst e3
    refine Or.inr ⟨ht, if z = 0 then 7 else 12, 0, [], 0, ?_⟩
    by_cases hz0 : z = 0
    · rw [if_pos hz0]
      exact ⟨by decide, by decide, fun y => absurd y (by decide), Or.inr (Or.inr (Or.inr ⟨by decide, by decide, by decide, by decide, rfl, rfl⟩)), by rw [if_pos rfl, if_pos hz0]; rfl, Or.inr ⟨by decide, rfl⟩⟩
    · rw [if_neg hz0]
      exact ⟨by decide, by decide, fun y => absurd y (by decide), Or.inr (Or.inr (Or.inr ⟨by decide, by decide, by decide, by decide, rfl, rfl⟩)), by rw [if_pos rfl, if_neg hz0]; rfl, Or.inr ⟨by decide, rfl⟩⟩
  rw [if_neg e3, if_neg (show ¬ q < 4 by omega)]
  by_cases e4 : q = 4
  · subst e4
    rw [if_pos rfl, if_pos rfl]
    exact Or.inr ⟨ht, 8, 23 + nm, [120 + nm], nI (23 + nm), by decide, by decide, fun y => absurd y (by decide), Or.inl ⟨rfl, nm, hn, rfl, rfl, rfl⟩, rfl, Or.inr ⟨by decide, rfl⟩⟩
  rw [if_neg e4, if_neg e4]
  by_cases e7 : q < 7
  · rw [if_pos e7, if_pos (show q < 9 by omega)]
    refine Or.inr ⟨ht, if z4 = 0 then 11 else 10, 0, [65 + o], nI o, ?_⟩
    by_cases hz0 : z4 = 0
    · rw [if_pos hz0, if_pos hz0]
      exact ⟨by decide, by decide, fun y => absurd y (by decide), Or.inr (Or.inl ⟨Or.inr rfl, o, ho, rfl, rfl⟩), rfl, Or.inr ⟨by decide, rfl⟩⟩
    · rw [if_neg hz0, if_neg hz0]
      exact ⟨by decide, by decide, fun y => absurd y (by decide), Or.inr (Or.inl ⟨Or.inl rfl, o, ho, rfl, rfl⟩), rfl, Or.inr ⟨by decide, rfl⟩⟩
  rw [if_neg e7]
  by_cases e77 : q = 7
  · subst e77
    rw [if_pos rfl, if_pos (by decide)]
    exact Or.inr ⟨ht, 9, 0, [], 0, by decide, by decide, fun y => absurd y (by decide), Or.inr (Or.inr (Or.inr ⟨by decide, by decide, by decide, by decide, rfl, rfl⟩)), rfl, Or.inr ⟨by decide, rfl⟩⟩
  rw [if_neg e77]
  by_cases e8 : q = 8
  · subst e8
    rw [if_pos rfl, if_pos (by decide)]
    exact Or.inr ⟨ht, 13, 0, [48 + z], nI z, by decide, by decide, fun y => absurd y (by decide), Or.inr (Or.inr (Or.inl ⟨rfl, z, hz, rfl, rfl⟩)), rfl, Or.inr ⟨by decide, rfl⟩⟩
  rw [if_neg e8, if_neg (show ¬ q < 9 by omega)]
  by_cases e9 : q = 9
  · subst e9
    rw [if_pos rfl, if_pos rfl]
    exact Or.inr ⟨ht, 6, 0, [], 0, by decide, by decide, fun y => absurd y (by decide), Or.inr (Or.inr (Or.inr ⟨by decide, by decide, by decide, by decide, rfl, rfl⟩)), rfl, Or.inr ⟨by decide, rfl⟩⟩
  rw [if_neg e9, if_neg e9]
  by_cases e12 : q < 12
  · rw [if_pos e12, if_pos e12]
    by_cases hm : mf = true
    · rw [if_pos hm, if_pos hm]
      exact Or.inr ⟨ht, 14, 0, [], 0, by decide, by decide, fun _ => hm, Or.inr (Or.inr (Or.inr ⟨by decide, by decide, by decide, by decide, rfl, rfl⟩)), rfl, Or.inr ⟨by decide, rfl⟩⟩
    · rw [if_neg hm, if_neg hm]
      exact Or.inl ⟨rfl, Or.inl ⟨1, by decide, rfl⟩⟩
  · rw [if_neg e12, if_neg e12]
    exact Or.inr ⟨ht, 15, 0, [], 0, by decide, by decide, fun y => absurd y (by decide), Or.inr (Or.inr (Or.inr ⟨by decide, by decide, by decide, by decide, rfl, rfl⟩)), rfl, Or.inl ⟨rfl, o, nm, ho, hn, rfl⟩⟩
/-- the letters that the writer binds -/
def BOK (b : Int32) : Prop := ∃ j, j < 8 ∧ b = nI (8388608 * j)
/-- an entry of the writer's stack -/
def enE (b : Int32) (mf : Bool) : Int32 := ((1073741824 : Int32) ||| ((if mf = true then (1 : Int32) else 0) <<< ((28 : Int32) &&& 31))) ||| b
def enI (it : WIt) : Int32 := if it.1 = true then enE it.2.2.1 it.2.2.2 else nI it.2.1
def IOK (it : WIt) : Prop := if it.1 = true then BOK it.2.2.1 else 32 ≤ it.2.1 ∧ it.2.1 ≤ 126
def ARI (A : Nat → Int32) : List WIt → Prop
  | [] => True
  | it :: J => (A J.length = enI it ∧ IOK it) ∧ ARI A J
theorem enE_k : ∀ j, j < 8 → ∀ mf, enE (nI (8388608 * j)) mf &&& 67108863 = nI (8388608 * j) ∧ (enE (nI (8388608 * j)) mf >>> ((28 : Int32) &&& 31)) &&& 1 = (if mf = true then 1 else 0) ∧ ¬ enE (nI (8388608 * j)) mf < 128 := by decide +kernel
theorem BOK_or : ∀ j, j < 8 → ∀ nm, nm < 3 → ∃ j', j' < 8 ∧ nI (8388608 * j) ||| ((1 : Int32) <<< (nI (23 + nm) &&& 31)) = nI (8388608 * j') := by decide +kernel
theorem enE_x : ∀ j, j < 8 → ∀ nm, nm < 3 → ∀ mf, enE (nI (8388608 * j)) mf ||| ((1 : Int32) <<< (nI (23 + nm) &&& 31)) = enE (nI (8388608 * j) ||| ((1 : Int32) <<< (nI (23 + nm) &&& 31))) mf ∧ (enE (nI (8388608 * j)) mf ||| 268435456) ||| ((1 : Int32) <<< (nI (23 + nm) &&& 31)) = enE (nI (8388608 * j) ||| ((1 : Int32) <<< (nI (23 + nm) &&& 31))) true := by decide +kernel
theorem ARI.push {A : Nat → Int32} {f : zI} {a : Nat} {J : List WIt} {it : WIt} (h : ARI (f a) J) (hi : IOK it) : ARI (zup f a J.length (enI it) a) (it :: J) := by
  have keep : ∀ (J' : List WIt), J'.length ≤ J.length → ARI (f a) J' → ARI (zup f a J.length (enI it) a) J' := by
    intro J'
    induction J' with
    | nil => intro _ _; exact trivial
    | cons y J' ih =>
      intro hl h
      have hl : J'.length + 1 ≤ J.length := hl
      exact ⟨⟨(zup_ne _ _ _ _ (by omega)).trans h.1.1, h.1.2⟩, ih (by omega) h.2⟩
  exact ⟨⟨zup_at _ _ _ _, hi⟩, keep J (Nat.le_refl _) h⟩
/-- rows that writing leaves -/
def WM (M M' : zI) : Prop := (∀ r, r ≠ 0 → r ≠ 6 → M' r = M r) ∧ ∀ j, j ≠ 8 → M' 0 j = M 0 j
theorem WM.rf (M : zI) : WM M M := ⟨fun _ _ _ => rfl, fun _ _ => rfl⟩
theorem WM.tr {M N P : zI} (h : WM M N) (k : WM N P) : WM M P := ⟨fun r a b => (k.1 r a b).trans (h.1 r a b), fun j a => (k.2 j a).trans (h.2 j a)⟩
section WRI
variable {l : Launch} {d : Nat} {D : zD} {b0 n0 c k a : Nat} {g0 g : zG} {f0 f M0 M : zI} {tx : List Nat} {J : List WIt}
/-- the writer's state: the object, the array, the text so far, the stack -/
def WS (b0 n0 c k a : Nat) (M0 : zI) (g0 : zG) (f0 : zI) (M : zI) (g : zG) (f : zI) (tx : List Nat) (J : List WIt) : Prop :=
  (OB b0 n0 c k M g f ∧ 120 * k ≤ 64800 ∧ ARR b0 g a ∧ a < n0 ∧ ¬ (c ≤ a ∧ a < c + 27)) ∧ TXT M tx ∧ WM M0 M ∧ ARI (f a) J ∧ KW c a g0 f0 g f
def WSQ (b0 n0 c k a : Nat) (M0 : zI) (g0 : zG) (f0 : zI) (tx : List Nat) (J : List WIt) : zP := fun r G F mc ms => (∃ x, r = some (.int x)) ∧ mc = 0 ∧ ms = 0 ∧ ∃ M', WS b0 n0 c k a M0 g0 f0 M' G F tx J
theorem WS.arr (h : WS b0 n0 c k a M0 g0 f0 M g f tx J) {it : WIt} (hi : IOK it) : WS b0 n0 c k a M0 g0 f0 M g (zup f a J.length (enI it)) tx (it :: J) := by
  obtain ⟨⟨h1, h2, h3, h4, h5⟩, h6, h7, h8, h9⟩ := h
  exact ⟨⟨h1.arr h2 h4 h5 _ _, h2, h3, h4, h5⟩, h6, h7, h8.push (A := f a) hi, h9.tr KW.arr⟩
/-- a call of the object -/
theorem WS.call (h : WS b0 n0 c k a M0 g0 f0 M g f tx J) {G : zG} {F N : zI} {tx' : List Nat} (hO : OB b0 n0 c k N G F) (hK : KP c g f G F) (hT : TXT N tx') (hW : WM M N) : WS b0 n0 c k a M0 g0 f0 N G F tx' J := by
  obtain ⟨⟨h1, h2, h3, h4, h5⟩, h6, h7, h8, h9⟩ := h
  refine ⟨⟨hO, h2, h3.le hK.1, h4, h5⟩, hT, h7.tr hW, ?_, h9.tr hK.w⟩
  rw [hK.arr h3 h5]; exact h8
theorem L_wsign (h : WS b0 n0 c k a M0 g0 f0 M g f tx J) (hd : 1 ≤ d) {ch : Nat} (h1 : 32 ≤ ch) (h2 : ch ≤ 126) (hl : tx.length < 120) : zM l d D b0 mL_sign [.ref c, .int (nI ch)] g f (WSQ b0 n0 c k a M0 g0 f0 (tx ++ [ch]) J) := by
  refine (L_sign h.1.1 h.1.2.1 hd (nI ch)).mono (fun r G F mc ms q => ?_)
  obtain ⟨q1, q2, q3, q4, q5⟩ := q
  obtain ⟨e1, e2, e3, e4⟩ := h.2.1.write h1 h2 hl
  exact ⟨⟨_, q1⟩, by omega, by omega, _, h.call q4 q5 e2 ⟨e3, e4⟩⟩
theorem L_wblank (h : WS b0 n0 c k a M0 g0 f0 M g f tx J) (hd : 1 ≤ d) (x : Int32) (hl : tx.length < 120) : zM l d D b0 mL_blank [.ref c, .int x] g f (fun r G F mc ms => r = some (.int x) ∧ mc = 0 ∧ ms = 0 ∧ ∃ M', WS b0 n0 c k a M0 g0 f0 M' G F (tx ++ [32]) J) := by
  refine (L_blank h.1.1 h.1.2.1 hd x).mono (fun r G F mc ms q => ?_)
  obtain ⟨q1, q2, q3, q4, q5⟩ := q
  obtain ⟨e1, e2, e3, e4⟩ := h.2.1.write (c := 32) (by decide) (by decide) hl
  exact ⟨q1, by omega, by omega, _, h.call q4 q5 e2 ⟨e3, e4⟩⟩
end WRI
