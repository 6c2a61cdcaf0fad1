/-! A copied run, cell by cell; the images. -/
section CP
variable {G : zG} {f : zI} {a b : Nat}
theorem cp_eq (hp : pA G (a + 4) 0 = a + 5 ∧ pA G (a + 4) 4 = a + 6) (hq : pA G (b + 4) 0 = b + 5 ∧ pA G (b + 4) 4 = b + 6) : cpyF6 G f a b =
    (let F := zu1 (cpyF5 f a b) (a + 5) (va_cpy (cpyF5 f a b (b + 5)) (cpyF5 f a b (a + 5)) 0 0 (tn (cpyF5 f a b (b + 4) 1)))
     let F2 := zu1 F (a + 6) (va_cpy (F (b + 6)) (F (a + 6)) 0 0 (tn (F (b + 4) 5)))
     let F3 := zup F2 (a + 4) 1 (F2 (b + 4) 1)
     let F4 := zup F3 (a + 4) 2 (F3 (b + 4) 2)
     let F5 := zup F4 (a + 4) 3 (F4 (b + 4) 3)
     let F6 := zup F5 (a + 4) 5 (F5 (b + 4) 5)
     zup F6 (a + 4) 6 (F6 (b + 4) 6)) := by
  unfold cpyF6 kled kcpI
  show _ = _
  simp only [uC, uI, hp.1, hp.2, hq.1, hq.2]
  rfl
theorem cp_0 (hp : pA G (a + 4) 0 = a + 5 ∧ pA G (a + 4) 4 = a + 6) (hq : pA G (b + 4) 0 = b + 5 ∧ pA G (b + 4) 4 = b + 6) (hab : a + 9 ≤ b ∨ b + 9 ≤ a) : cpyF G f a b a 2 = f b 2 ∧ cpyF G f a b a 3 = f b 3 ∧ cpyF G f a b a 6 = f b 6 ∧ cpyF G f a b a 7 = f b 7 ∧ cpyF G f a b a 11 = f b 11 := by
  unfold cpyF cpyF8 cpyF7
  rw [cp_eq hp hq]
  unfold cpyF5 kstF cpyF4 cpyF3 cpyF2 cpyF1
  refine ⟨?_, ?_, ?_, ?_, ?_⟩ <;> simp (disch := omega) only [zup_r, zup_at, zu1_ne, zu1_at, zup_ne]
theorem cp_2 (hp : pA G (a + 4) 0 = a + 5 ∧ pA G (a + 4) 4 = a + 6) (hq : pA G (b + 4) 0 = b + 5 ∧ pA G (b + 4) 4 = b + 6) (hab : a + 9 ≤ b ∨ b + 9 ≤ a) : cpyF G f a b (a + 2) 1 = f (b + 2) 1 ∧ cpyF G f a b (a + 2) 2 = f (b + 2) 2 := by
  unfold cpyF cpyF8 cpyF7
  rw [cp_eq hp hq]
  unfold cpyF5 kstF cpyF4 cpyF3 cpyF2 cpyF1
  refine ⟨?_, ?_⟩ <;> simp (disch := omega) only [zup_r, zup_at, zu1_ne, zu1_at, zup_ne]
theorem cp_4 (hp : pA G (a + 4) 0 = a + 5 ∧ pA G (a + 4) 4 = a + 6) (hq : pA G (b + 4) 0 = b + 5 ∧ pA G (b + 4) 4 = b + 6) (hab : a + 9 ≤ b ∨ b + 9 ≤ a) : cpyF G f a b (a + 4) 1 = f (b + 4) 1 ∧ cpyF G f a b (a + 4) 2 = f (b + 4) 2 ∧ cpyF G f a b (a + 4) 3 = f (b + 4) 3 ∧ cpyF G f a b (a + 4) 5 = f (b + 4) 5 ∧ cpyF G f a b (a + 4) 6 = f (b + 4) 6 := by
  unfold cpyF cpyF8 cpyF7
  rw [cp_eq hp hq]
  unfold cpyF5 kstF cpyF4 cpyF3 cpyF2 cpyF1
  refine ⟨?_, ?_, ?_, ?_, ?_⟩ <;> simp (disch := omega) only [zup_r, zup_at, zu1_ne, zu1_at, zup_ne]
theorem cp_5 (hp : pA G (a + 4) 0 = a + 5 ∧ pA G (a + 4) 4 = a + 6) (hq : pA G (b + 4) 0 = b + 5 ∧ pA G (b + 4) 4 = b + 6) (hab : a + 9 ≤ b ∨ b + 9 ≤ a) : cpyF G f a b (a + 5) = va_cpy (f (b + 5)) (f (a + 5)) 0 0 (tn (f (b + 4) 1)) ∧ cpyF G f a b (a + 6) = va_cpy (f (b + 6)) (f (a + 6)) 0 0 (tn (f (b + 4) 5)) := by
  unfold cpyF cpyF8 cpyF7
  rw [cp_eq hp hq]
  unfold cpyF5 kstF cpyF4 cpyF3 cpyF2 cpyF1
  refine ⟨?_, ?_⟩ <;> simp (disch := omega) only [zup_r, zup_at, zu1_ne, zu1_at, zup_ne]
theorem cp_7 (hp : pA G (a + 4) 0 = a + 5 ∧ pA G (a + 4) 4 = a + 6) (hq : pA G (b + 4) 0 = b + 5 ∧ pA G (b + 4) 4 = b + 6) (hab : a + 9 ≤ b ∨ b + 9 ≤ a) : cpyF G f a b (a + 7) = va_cpy (f (b + 7)) (f (a + 7)) 0 0 60 ∧ cpyF G f a b (a + 8) = va_cpy (f (b + 8)) (f (a + 8)) 0 0 6 := by
  unfold cpyF cpyF8 cpyF7
  rw [cp_eq hp hq]
  unfold cpyF5 kstF cpyF4 cpyF3 cpyF2 cpyF1
  refine ⟨?_, ?_⟩ <;> simp (disch := omega) only [zup_r, zup_at, zu1_ne, zu1_at, zup_ne] <;> rfl
theorem cp_lt {f g : Nat → Int32} {n j : Nat} (h : j < n) : va_cpy f g 0 0 n j = f j := by
  rw [pk_cpy_in (Nat.zero_le _) (by omega)]
  show f (0 + (j - 0)) = f j
  rw [Nat.zero_add, Nat.sub_zero]
theorem cp_le {f g : Nat → Int32} {n j b : Nat} (hf : ∃ u, u ≤ b ∧ f j = nI u) (hg : ∃ u, u ≤ b ∧ g j = nI u) : ∃ u, u ≤ b ∧ va_cpy f g 0 0 n j = nI u := by
  by_cases h : j < n
  · rw [cp_lt h]; exact hf
  · rw [pk_cpy_out (Or.inr (by omega))]; exact hg
end CP
/-- an image, seen as a run -/
def iM (M : zI) (i : Nat) : zI := fun r k => if r = 2 then M 3 (8490 * i + k) else if r = 4 then M 5 (280000 * i + k) else M r k
def iR (g : zG) (a : Nat) : zRf := fun j => g.2.2.2 (a + (j - 17))
def iC (f : zI) (a : Nat) : zI := fun j => f (a + (j - 17))
/-- nothing was begun where there is no main expression -/
def MN (R : zRf) (C : zI) : Prop := R 17 0 = none → C 17 2 = 0
def IMG (b0 n0 : Nat) (g : zG) (f M : zI) (t : zTs) (R : zRf) (b i : Nat) : Prop :=
  R 26 i = none ∨ ∃ a, R 26 i = some a ∧ RA b0 g a ∧ n0 ≤ a ∧ ∃ y n, RQ b0 n0 (g, f, iM M i, t, y, n) (iR g a) (iC f a) b ∧ MN (iR g a) (iC f a)
def FB (R : zRf) : Int32 := (if R 26 0 = none then 0 else 1) + (if R 26 1 = none then 0 else 2)
theorem FB_bit {R : zRf} {i : Nat} (hi : i < 2) : (FB R >>> (nI i &&& 31) &&& 1 = 0 ↔ R 26 i = none) ∧ (∀ a, FB R ||| 1 <<< (nI i &&& 31) = FB (zup R 26 i (some a))) ∧ (¬ R 26 i = none → FB R ||| 1 <<< (nI i &&& 31) = FB R) := by
  have e0 : ∀ x : Option Nat, x = none ∨ ¬ x = none := fun x => Classical.em _
  have hs : i = 0 ∨ i = 1 := by omega
  have k : ∀ a, ¬ (some a : Option Nat) = none := fun a z => by cases z
  rcases hs with rfl | rfl
  · rcases e0 (R 26 0) with q | q <;> rcases e0 (R 26 1) with q1 | q1
    · refine ⟨⟨fun _ => q, fun _ => by unfold FB; rw [if_pos q, if_pos q1]; decide⟩, fun a => by unfold FB; rw [zup_at, zup_ne _ _ _ _ (by omega), if_pos q, if_pos q1, if_neg (k a)]; decide, fun z => absurd q z⟩
    · refine ⟨⟨fun _ => q, fun _ => by unfold FB; rw [if_pos q, if_neg q1]; decide⟩, fun a => by unfold FB; rw [zup_at, zup_ne _ _ _ _ (by omega), if_pos q, if_neg q1, if_neg (k a)]; decide, fun z => absurd q z⟩
    · refine ⟨⟨fun z => by unfold FB at z; rw [if_neg q, if_pos q1] at z; exact absurd z (by decide), fun z => absurd z q⟩, fun a => by unfold FB; rw [zup_at, zup_ne _ _ _ _ (by omega), if_neg q, if_pos q1, if_neg (k a)]; decide, fun _ => by unfold FB; rw [if_neg q, if_pos q1]; decide⟩
    · refine ⟨⟨fun z => by unfold FB at z; rw [if_neg q, if_neg q1] at z; exact absurd z (by decide), fun z => absurd z q⟩, fun a => by unfold FB; rw [zup_at, zup_ne _ _ _ _ (by omega), if_neg q, if_neg q1, if_neg (k a)]; decide, fun _ => by unfold FB; rw [if_neg q, if_neg q1]; decide⟩
  · rcases e0 (R 26 0) with q | q <;> rcases e0 (R 26 1) with q1 | q1
    · refine ⟨⟨fun _ => q1, fun _ => by unfold FB; rw [if_pos q, if_pos q1]; decide⟩, fun a => by unfold FB; rw [zup_at, zup_ne _ _ _ _ (by omega), if_pos q, if_pos q1, if_neg (k a)]; decide, fun z => absurd q1 z⟩
    · refine ⟨⟨fun z => by unfold FB at z; rw [if_pos q, if_neg q1] at z; exact absurd z (by decide), fun z => absurd z q1⟩, fun a => by unfold FB; rw [zup_at, zup_ne _ _ _ _ (by omega), if_pos q, if_neg q1, if_neg (k a)]; decide, fun _ => by unfold FB; rw [if_pos q, if_neg q1]; decide⟩
    · refine ⟨⟨fun _ => q1, fun _ => by unfold FB; rw [if_neg q, if_pos q1]; decide⟩, fun a => by unfold FB; rw [zup_at, zup_ne _ _ _ _ (by omega), if_neg q, if_pos q1, if_neg (k a)]; decide, fun z => absurd q1 z⟩
    · refine ⟨⟨fun z => by unfold FB at z; rw [if_neg q, if_neg q1] at z; exact absurd z (by decide), fun z => absurd z q1⟩, fun a => by unfold FB; rw [zup_at, zup_ne _ _ _ _ (by omega), if_neg q, if_neg q1, if_neg (k a)]; decide, fun _ => by unfold FB; rw [if_neg q, if_neg q1]; decide⟩
