/-! what the calls answer, said of the city -/
def tkN (j : Nat) : Nat := if j = 0 then 6 else if j = 1 then 20 else if j = 2 then 60 else 90
theorem tkf_N (j : Nat) : tkf j = nI (tkN j) := by
  unfold tkf tkN
  split
  · rfl
  · split
    · rfl
    · split <;> rfl
theorem tkN_le (j : Nat) : 6 ≤ tkN j ∧ tkN j ≤ 90 := by
  unfold tkN
  split
  · omega
  · split
    · omega
    · split <;> omega
def isInS (v a b : Int32) : Bool := !decide (v < a) && !decide (b < v)
def hasS (c : Cy) (i : Nat) (f w : Int32) : Bool := !decide (f < 0) && !decide (w < nI 1) && !decide (nI (c.R 1 i) - f < w)
def pcS (c : Cy) (i : Nat) (t : Int32) : Int32 := if c.I 5 i < t then -1 else c.I 4 i
def watS (c : Cy) (i a b : Nat) : Bool := !decide (c.I 7 i < nI a) && decide (c.I 6 i < nI (a + b))
def clnS (c : Cy) (i t : Nat) : Bool := decide (0 < c.R 2 i) && decide (t % c.R 2 i = 0)
def anyS (P : Nat → Bool) (f : Nat) : Nat → Bool
  | 0 => false
  | n + 1 => P f || anyS P (f + 1) n
def cntN (P : Nat → Bool) : Nat → Nat
  | 0 => 0
  | n + 1 => cntN P n + (if P n = true then 1 else 0)
def smI (f : Nat → Int32) : Nat → Int32
  | 0 => nI 0
  | n + 1 => smI f n + f n
theorem cntN_le (P : Nat → Bool) : ∀ n, cntN P n ≤ n
  | 0 => Nat.le_refl 0
  | n + 1 => by
    have h := cntN_le P n
    unfold cntN
    split <;> omega
theorem cntN_t {P : Nat → Bool} {n : Nat} (h : P n = true) : cntN P (n + 1) = cntN P n + 1 := by
  show cntN P n + _ = _
  rw [if_pos h]
theorem cntN_f {P : Nat → Bool} {n : Nat} (h : P n = false) : cntN P (n + 1) = cntN P n := by
  show cntN P n + _ = _
  rw [if_neg (by rw [h]; decide)]
  rfl
theorem anyS_0 {P : Nat → Bool} {f e : Nat} (h : e ≤ f) : anyS P f (e - f) = false := by
  rw [show e - f = 0 by omega]; rfl
theorem anyS_t {P : Nat → Bool} {f e : Nat} (h : f < e) (hp : P f = true) : anyS P f (e - f) = true := by
  rw [show e - f = (e - (f + 1)) + 1 by omega]
  show (P f || _) = true
  rw [hp]; rfl
theorem anyS_f {P : Nat → Bool} {f e : Nat} (h : f < e) (hp : P f = false) : anyS P f (e - f) = anyS P (f + 1) (e - (f + 1)) := by
  rw [show e - f = (e - (f + 1)) + 1 by omega]
  show (P f || _) = _
  rw [hp]; rfl
/-- layer j shows at the cell k of wall i -/
def shwB (c : Cy) (i j : Nat) : Nat → Bool := fun k => decide (c.sh i k = some j)
def pntB (c : Cy) (i : Nat) : Nat → Bool := fun k => (c.sh i k).isSome
def csS (c : Cy) (i j : Nat) : Nat := cntN (shwB c i j) (c.R 1 i)
def faS (c : Cy) (i k h : Nat) : Int32 := match c.sh i k with
  | none => nI 0
  | some j => if c.R 5 j = h then c.I 2 i * wtf (c.R 9 j) else nI 0
def wfS (c : Cy) (i h : Nat) : Int32 := smI (fun k => faS c i k h) (c.R 1 i)
def seenS (c : Cy) (j : Nat) : Nat := csS c (c.R 6 j) j
def hrS (c : Cy) (j : Nat) : Bool := c.B 1 j && !decide (c.R 9 j < 2) && !c.B 2 j
def mcS (c : Cy) (h k : Nat) : Nat := (tkN k + c.R 4 h - 1) / c.R 4 h
