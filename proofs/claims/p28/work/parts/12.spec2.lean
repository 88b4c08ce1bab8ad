def absS (x : Int32) : Int32 := if 0 ≤ x then x else 0 - x
def permS (c : Cy) (h i : Nat) : Bool := decide (pcS c i (nI (c.R 0 0)) = c.I 8 h)
def iswS (c : Cy) (h i j k : Nat) : Bool := if c.R 5 j = h then false else if c.B 3 j = true then true else !decide (c.I 8 (c.R 5 j) = c.I 8 h) && !decide (c.R 9 j < k) && decide (nI (c.R 0 0) - c.I 16 j < nI 20) && !permS c h i
def waS (c : Cy) (h i f k kd : Nat) : Option Nat := match c.sh i k with
  | none => none
  | some j => if anyS (shwB c i j) f (k - f) = true then none else if iswS c h i j kd = true then some (c.R 5 j) else none
theorem waS_lt {c : Cy} (wf : WF c) {h i f k kd x : Nat} (hi : i < c.R 11 0) (hk : k < c.R 1 i) (e : waS c h i f k kd = some x) : x < c.R 11 1 := by
  unfold waS at e
  cases q : c.sh i k with
  | none => rw [q] at e; cases e
  | some j =>
    rw [q] at e
    have hj := wf.sj hi hk q
    simp only at e
    split at e
    · cases e
    · split at e
      · rw [← Option.some.inj e]; exact wf.lh hj
      · cases e
theorem cntR_t {P : Nat → Bool} {f k : Nat} (hk : f ≤ k) (hp : P k = true) : cntN (fun q => P (f + q)) (k + 1 - f) = cntN (fun q => P (f + q)) (k - f) + 1 := by
  rw [show k + 1 - f = (k - f) + 1 by omega]
  exact cntN_t (P := fun q => P (f + q)) (by rw [show f + (k - f) = k by omega]; exact hp)
theorem cntR_f {P : Nat → Bool} {f k : Nat} (hk : f ≤ k) (hp : P k = false) : cntN (fun q => P (f + q)) (k + 1 - f) = cntN (fun q => P (f + q)) (k - f) := by
  rw [show k + 1 - f = (k - f) + 1 by omega]
  exact cntN_f (P := fun q => P (f + q)) (by rw [show f + (k - f) = k by omega]; exact hp)
theorem smR {g : Nat → Int32} {f k : Nat} (hk : f ≤ k) : smI (fun q => g (f + q)) (k + 1 - f) = smI (fun q => g (f + q)) (k - f) + g k := by
  rw [show k + 1 - f = (k - f) + 1 by omega]
  show _ + g (f + (k - f)) = _
  rw [show f + (k - f) = k by omega]
def cwrS (c : Cy) (h i f w kd : Nat) : Nat := cntN (fun q => (waS c h i f (f + q) kd).isSome) w
def fmS (c : Cy) (h : Nat) : Int32 := smI (fun i => wfS c i h) (c.R 10 0)
def fgS (c : Cy) (h i f w kd : Nat) : Int32 := smI (fun q => c.I 2 i * wtf kd - faS c i (f + q) h) w
def prS (c : Cy) (j : Nat) : Int32 := wtf (c.R 9 j) * nI (seenS c j) * (nI 10 + fmS c (c.R 5 j) / nI 10)
def diS (c : Cy) (j k : Nat) : Int32 := absS (c.I 9 k - slS c j) + absS (c.I 10 k - rdS c j)
def suF (c : Cy) (j : Nat) : Nat → Int32 × Int32
  | 0 => (-1, nI 0)
  | n + 1 => if c.B 0 n = true ∧ ((suF c j n).1 = -1 ∨ diS c j n < (suF c j n).2) then (nI n, diS c j n) else suF c j n
def suS (c : Cy) (j : Nat) : Int32 := (suF c j (c.R 10 1)).1
def tbS (c : Cy) (i k : Nat) : Bool := match c.sh i k with
  | none => false
  | some j => !c.B 1 j || !permS c (c.R 5 j) i
def ctbS (c : Cy) (i : Nat) : Nat := cntN (tbS c i) (c.R 1 i)
def eyS (c : Cy) (i : Nat) : Int32 := c.I 2 i * nI (ctbS c i)
def wbcS (c : Cy) (i n : Nat) : Bool := anyS (fun a => clnS c i (c.R 0 0 + a)) 1 n
def lsoB (c : Cy) (i j : Nat) : Bool := decide (c.R 6 j = i) && decide (0 < seenS c j)
def lsoS (c : Cy) (i : Nat) : Nat := cntN (lsoB c i) (c.R 10 2)
def lofB (c : Cy) (h j : Nat) : Bool := decide (c.R 5 j = h)
def lsfB (c : Cy) (h j : Nat) : Bool := decide (c.R 5 j = h) && decide (0 < seenS c j)
def lseB (c : Cy) (j : Nat) : Bool := decide (0 < seenS c j)
def lwsB (c : Cy) (j : Nat) : Bool := decide (0 < seenS c j) && !decide (suS c j = -1) && !decide (suS c j = nI (c.R 5 j))
def nbF (c : Cy) : Nat → Int32 × Int32
  | 0 => (-1, nI 0)
  | n + 1 => if ¬ c.I 0 0 < nI (ctbS c n) ∧ (nbF c n).2 < eyS c n then (nI n, eyS c n) else nbF c n
def nbS (c : Cy) : Int32 := (nbF c (c.R 10 0)).1
theorem wAbs_X3 : .methodLink RX3 299 Lib.Math.abs.name ∈ WG := wg_t 538 (by decide +kernel) (by decide +kernel)
theorem wAbsS : .static Lib.Math.abs.name ∈ WG := wg_t 539 (by decide +kernel) (by decide +kernel)
theorem wAbsI : .initialized "java/lang/Math" ∈ WG := wg_t 12 (by decide +kernel) (by decide +kernel)
theorem wAbsC : .code Lib.Math.abs.name Lib.Math.abs.code 1 (some .int) ∈ WG := wg_t 540 (by decide +kernel) (by decide +kernel)
