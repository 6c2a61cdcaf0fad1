/-! The reference's run: what each method answers and does, over the table M. -/
def pkind (M : zI) (x : Int32) : Int32 := M 1 (5 * tn x)
def parg (M : zI) (x : Int32) : Int32 := M 1 (5 * tn x + 1)
def ppart (M : zI) (x k : Int32) : Int32 := M 1 (5 * tn x + 1 + tn k)
def pof (M : zI) (x k : Int32) : Int32 := M 4 (7 * tn x + tn k)
def puses (M : zI) (x : Int32) : Int32 := M 2 (3630 + 3 * tn x + 2)
def pdepth (M : zI) : Int32 := if M 2 7 = -9 then 0 else pof M (M 2 7) 6
def ppush (M : zI) (k n e s x : Int32) : zI :=
  let t := 7 * tn (M 2 21)
  let M1 := zup M 2 21 (M 2 21 + 1)
  let M2 := zup (zup (zup (zup (zup M1 4 (t + 0) k) 4 (t + 1) n) 4 (t + 2) e) 4 (t + 3) s) 4 (t + 4) x
  let M3 := zup M2 4 (t + 5) (M2 2 7)
  let M4 := zup M3 4 (t + 6) (pdepth M3 + 1)
  let M5 := zup M4 2 7 (M 2 21)
  zup M5 2 8 (if M5 2 8 < pdepth M5 then pdepth M5 else M5 2 8)
def pfocusOn (M : zI) (n e s : Int32) : zI := zup (zup (zup (zup M 2 16 2) 2 17 n) 2 18 e) 2 19 s
def pbecome (M : zI) (v : Int32) : zI :=
  let M1 := zup (zup M 2 16 1) 2 20 v
  zup M1 2 5 (if M1 2 7 = -9 then 2 else 1)
def pbindTo (M : zI) (e c v : Int32) : zI :=
  let t := 3 * tn (M 2 22)
  zup (zup (zup (zup M 2 22 (M 2 22 + 1)) 2 (30 + t) c) 2 (30 + t + 1) v) 2 (30 + t + 2) e
def pframeOf (k : Int32) : Int32 := if k = 6 then 3 else if k = 7 then 4 else if k = 8 then 5 else if k = 9 then 6 else if k = 10 then 7 else if k = 11 then 8 else if k = 12 then 9 else if k = 13 then 10 else if k = 14 then 11 else if k = 15 then 12 else 1
def presult (k a b : Int32) : Int32 := if k = 2 then a + b else if k = 3 then a - b else if k = 4 then a * b else if a < b then 1 else 0
def ptrace0 (M : zI) (v : Int32) : zI := if M 2 9 < 60 then (let M1 := zup M 2 (8430 + tn (M 2 9)) v; zup M1 2 9 (M1 2 9 + 1)) else M
def pmakeRes (M : zI) (t n : Int32) : zI :=
  let q := 3 * tn (M 2 11)
  zup (zup (zup (zup M 2 11 (M 2 11 + 1)) 2 (3630 + q) t) 2 (3630 + q + 1) n) 2 (3630 + q + 2) 0
def pcheck (M : zI) : zI := if M 2 5 = 1 ∧ M 2 6 = 1000 then zup (zup M 2 5 5) 2 16 0 else M
def pexec (M : zI) (x v : Int32) : zI :=
  let M1 := zup M 2 (7230 + tn (pof M x 4)) 1
  let M2 := zup M1 2 14 (M1 2 14 + 1)
  let M3 := ppush M2 13 (-9) (-9) (-9) v
  pfocusOn M3 (ppart M3 (pof M3 x 1) 2) (pof M3 x 2) (pof M3 x 3)
theorem tn_0 : tn 0 = 0 := rfl
theorem tn_1 : tn 1 = 1 := rfl
theorem tn_2 : tn 2 = 2 := rfl
theorem tn_3 : tn 3 = 3 := rfl
