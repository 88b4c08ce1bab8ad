/-! WHAT A CITY IS: R: numbers (0 night; 1 width, 2 cleaning of a wall; 3 minutes used, 4 speed of a hand; 5 hand, 6 wall, 7 first cell, 8 how wide, 9 kind of a layer; 10 sizes of the lists, 11 how many objects there are: walls, hands, layers); I: ints (0 coins, 1 sold; 2 sight, 3 owner, 4 permit's crew, 5 up to, 6 watch from, 7 to; 8 crew, 9 slant, 10 round, 11 fines, 13 caught, 14 owed; 15 wobble, 16 night); B: flags (0 known; 1 legal, 2 waived, 3 memorial); Wr: wrongs; sh: what a cell shows -/
abbrev Cy : Type := (Nat → Nat → Nat) × (Nat → Nat → Int32) × (Nat → Nat → Bool) × (Nat → Nat → Int32) × (Nat → Nat → Option Nat)
def Cy.R (c : Cy) : Nat → Nat → Nat := c.1
def Cy.I (c : Cy) : Nat → Nat → Int32 := c.2.1
def Cy.B (c : Cy) : Nat → Nat → Bool := c.2.2.1
def Cy.Wr (c : Cy) : Nat → Nat → Int32 := c.2.2.2.1
def Cy.sh (c : Cy) : Nat → Nat → Option Nat := c.2.2.2.2
/-- the lists' own: modCount, places -/
abbrev Ly : Type := (Nat → Int32) × (Nat → Nat)
def lsf (n : Nat) (g : Nat → Nat) : Nat → Option Nat := fun j => if j < n then some (g j) else none
abbrev oLs (c : Cy) (ly : Ly) (ad : Nat → Nat → Nat) (i : Nat) : List Value := [.int (ly.1 i), .ref (ad 2 i), .int (nI (c.R 10 i))]
abbrev oLa (E : En) (c : Cy) (ly : Ly) (ad : Nat → Nat → Nat) (i : Nat) : ClassId × vp_A := (E.2 3, ly.2 i, .inr (.inr (.inr (.inr (lsf (c.R 10 i) (ad (3 + 2 * i)))))))
/-! the class's cells -/
abbrev xRo (c : Cy) (ad : Nat → Nat → Nat) : List Value := [.ref (ad 1 0), .ref (ad 1 1), .ref (ad 1 2), .int (nI (c.R 0 0)), .int (c.I 0 0), .int (c.I 1 0)]
abbrev xWa (c : Cy) (ad : Nat → Nat → Nat) (i : Nat) : List Value := [.int (nI i), .int (nI (c.R 1 i)), .int (c.I 2 i), .int (c.I 3 i), .int (nI (c.R 2 i)), .ref (ad 4 i), .int (c.I 4 i), .int (c.I 5 i), .int (c.I 6 i), .int (c.I 7 i)]
abbrev xSh (E : En) (c : Cy) (ad : Nat → Nat → Nat) (i : Nat) : ClassId × vp_A := (E.2 2, c.R 1 i, .inr (.inr (.inr (.inr (fun k => (c.sh i k).map (ad 7))))))
abbrev xHa (c : Cy) (ad : Nat → Nat → Nat) (h : Nat) : List Value := [.int (nI h), .int (c.I 8 h), .int (nI (c.R 4 h)), .int (c.I 9 h), .int (c.I 10 h), .ref (ad 6 h), .int (nI (c.R 3 h)), .int (c.I 11 h), .int (bI (c.B 0 h)), .int (c.I 13 h), .int (c.I 14 h)]
abbrev xWr (E : En) (c : Cy) (h : Nat) : ClassId × vp_A := (E.2 1, 8, .inl (c.Wr h))
abbrev xLa (c : Cy) (ad : Nat → Nat → Nat) (j : Nat) : List Value := [.int (nI j), .ref (ad 5 (c.R 5 j)), .ref (ad 3 (c.R 6 j)), .int (nI (c.R 7 j)), .int (nI (c.R 8 j)), .int (nI (c.R 9 j)), .int (c.I 15 j), .int (c.I 16 j), .int (bI (c.B 1 j)), .int (bI (c.B 2 j)), .int (bI (c.B 3 j))]
def cX (E : En) (c : Cy) (ly : Ly) (ad : Nat → Nat → Nat) (k i : Nat) : Option va_E := match k with
  | 0 => if i = 0 then some (.inr (5, xRo c ad)) else none
  | 1 => if i < 3 then some (.inr (1, oLs c ly ad i)) else none
  | 2 => if i < 3 ∧ 0 < ly.2 i then some (.inl (oLa E c ly ad i)) else none
  | 3 => if i < c.R 11 0 then some (.inr (4, xWa c ad i)) else none
  | 4 => if i < c.R 11 0 then some (.inl (xSh E c ad i)) else none
  | 5 => if i < c.R 11 1 then some (.inr (2, xHa c ad i)) else none
  | 6 => if i < c.R 11 1 then some (.inl (xWr E c i)) else none
  | 7 => if i < c.R 11 2 then some (.inr (3, xLa c ad i)) else none
  | _ => none
/-! the reference's cells -/
def oI (o : Option Nat) : Int32 := match o with
  | none => -1
  | some j => nI j
def shI (c : Cy) (i k : Nat) : Int32 := oI (c.sh i k)
theorem shI_n {c : Cy} {i k : Nat} (h : c.sh i k = none) : shI c i k = -1 := by unfold shI; rw [h]; rfl
theorem shI_s {c : Cy} {i k j : Nat} (h : c.sh i k = some j) : shI c i k = nI j := by unfold shI; rw [h]; rfl
theorem nI_m1 {j : Nat} (h : j < 2 ^ 31) : ¬ nI j = -1 := fun q => by
  have h1 := nI_toInt h
  rw [q] at h1
  have h2 : (-1 : Int32).toInt = -1 := by decide
  rw [h2] at h1
  omega
def mfr (c : Cy) (i : Nat) : Int32 := if c.I 7 i = -1 then -1 else c.I 6 i
abbrev mRo (c : Cy) (th : Int32) (ad : Nat → Nat → Nat) : List Value := [.int th, .int (nI (c.R 0 0)), .int (c.I 0 0), .int (c.I 1 0), .ref (ad 1 0), .ref (ad 1 1), .ref (ad 1 2)]
abbrev mWa (c : Cy) (ad : Nat → Nat → Nat) (i : Nat) : List Value := [.int (c.I 2 i), .int (c.I 3 i), .int (nI (c.R 2 i)), .ref (ad 4 i), .int (c.I 4 i), .int (c.I 5 i), .int (mfr c i), .int (c.I 7 i)]
abbrev mSh (E : En) (c : Cy) (i : Nat) : ClassId × vp_A := (E.2 1, c.R 1 i, .inl (shI c i))
abbrev mHa (c : Cy) (ad : Nat → Nat → Nat) (h : Nat) : List Value := [.int (c.I 8 h), .int (nI (c.R 4 h)), .int (c.I 9 h), .int (c.I 10 h), .int (nI (c.R 3 h)), .int (c.I 11 h), .int (bI (c.B 0 h)), .int (c.I 13 h), .int (c.I 14 h), .ref (ad 6 h)]
/-- the slant and the round that a layer shows -/
def slS (c : Cy) (j : Nat) : Int32 := c.I 9 (c.R 5 j) + c.I 15 j
def rdS (c : Cy) (j : Nat) : Int32 := c.I 10 (c.R 5 j) - c.I 15 j
abbrev mLa (c : Cy) (j : Nat) : List Value := [.int (nI (c.R 5 j)), .int (nI (c.R 6 j)), .int (nI (c.R 7 j)), .int (nI (c.R 8 j)), .int (nI (c.R 9 j)), .int (slS c j), .int (rdS c j), .int (c.I 16 j), .int (bI (c.B 1 j)), .int (bI (c.B 2 j)), .int (bI (c.B 3 j))]
def cM (E : En) (c : Cy) (th : Int32) (ly : Ly) (ad : Nat → Nat → Nat) (k i : Nat) : Option va_E := match k with
  | 0 => if i = 0 then some (.inr (9, mRo c th ad)) else none
  | 1 => if i < 3 then some (.inr (1, oLs c ly ad i)) else none
  | 2 => if i < 3 ∧ 0 < ly.2 i then some (.inl (oLa E c ly ad i)) else none
  | 3 => if i < c.R 11 0 then some (.inr (8, mWa c ad i)) else none
  | 4 => if i < c.R 11 0 then some (.inl (mSh E c i)) else none
  | 5 => if i < c.R 11 1 then some (.inr (6, mHa c ad i)) else none
  | 6 => if i < c.R 11 1 then some (.inl (xWr E c i)) else none
  | 7 => if i < c.R 11 2 then some (.inr (7, mLa c i)) else none
  | _ => none
section STA
variable {E : En} {c : Cy} {th : Int32} {ly : Ly} {ad : Nat → Nat → Nat} {i : Nat}
theorem cX_0 : cX E c ly ad 0 0 = some (.inr (5, xRo c ad)) := rfl
theorem cX_1 (h : i < 3) : cX E c ly ad 1 i = some (.inr (1, oLs c ly ad i)) := if_pos h
theorem cX_2 (h : i < 3) (h2 : 0 < ly.2 i) : cX E c ly ad 2 i = some (.inl (oLa E c ly ad i)) := if_pos ⟨h, h2⟩
theorem cX_3 (h : i < c.R 11 0) : cX E c ly ad 3 i = some (.inr (4, xWa c ad i)) := if_pos h
theorem cX_4 (h : i < c.R 11 0) : cX E c ly ad 4 i = some (.inl (xSh E c ad i)) := if_pos h
theorem cX_5 (h : i < c.R 11 1) : cX E c ly ad 5 i = some (.inr (2, xHa c ad i)) := if_pos h
theorem cX_6 (h : i < c.R 11 1) : cX E c ly ad 6 i = some (.inl (xWr E c i)) := if_pos h
theorem cX_7 (h : i < c.R 11 2) : cX E c ly ad 7 i = some (.inr (3, xLa c ad i)) := if_pos h
theorem cM_0 : cM E c th ly ad 0 0 = some (.inr (9, mRo c th ad)) := rfl
theorem cM_1 (h : i < 3) : cM E c th ly ad 1 i = some (.inr (1, oLs c ly ad i)) := if_pos h
theorem cM_2 (h : i < 3) (h2 : 0 < ly.2 i) : cM E c th ly ad 2 i = some (.inl (oLa E c ly ad i)) := if_pos ⟨h, h2⟩
theorem cM_3 (h : i < c.R 11 0) : cM E c th ly ad 3 i = some (.inr (8, mWa c ad i)) := if_pos h
theorem cM_4 (h : i < c.R 11 0) : cM E c th ly ad 4 i = some (.inl (mSh E c i)) := if_pos h
theorem cM_5 (h : i < c.R 11 1) : cM E c th ly ad 5 i = some (.inr (6, mHa c ad i)) := if_pos h
theorem cM_6 (h : i < c.R 11 1) : cM E c th ly ad 6 i = some (.inl (xWr E c i)) := if_pos h
theorem cM_7 (h : i < c.R 11 2) : cM E c th ly ad 7 i = some (.inr (7, mLa c i)) := if_pos h
end STA
/-- what every state keeps -/
def WF (c : Cy) : Prop :=
  (c.R 11 0 ≤ 6 ∧ c.R 11 1 ≤ 8 ∧ c.R 11 2 ≤ 60) ∧ (c.R 10 0 ≤ c.R 11 0 ∧ c.R 10 1 ≤ c.R 11 1 ∧ c.R 10 2 ≤ c.R 11 2) ∧
  (∀ i, i < c.R 11 0 → 4 ≤ c.R 1 i ∧ c.R 1 i ≤ 16 ∧ c.R 2 i ≤ 20) ∧
  (∀ h, h < c.R 11 1 → c.R 3 h ≤ 360 ∧ 1 ≤ c.R 4 h ∧ c.R 4 h ≤ 9) ∧
  (∀ j, j < c.R 11 2 → c.R 5 j < c.R 11 1 ∧ c.R 6 j < c.R 11 0 ∧ c.R 9 j < 4 ∧ 1 ≤ c.R 8 j ∧ c.R 7 j + c.R 8 j ≤ c.R 1 (c.R 6 j)) ∧
  (∀ i k j, i < c.R 11 0 → k < c.R 1 i → c.sh i k = some j → j < c.R 11 2) ∧ c.R 0 0 ≤ 400 ∧
  (∀ h k, h < c.R 11 1 → c.R 11 1 ≤ k → c.Wr h k = nI 0) ∧ (∀ i, i < c.R 11 0 → c.I 7 i = -1 ∨ ¬ c.I 6 i < 0) ∧ (∀ i, i < c.R 11 0 → ∃ q : Nat, 1 ≤ q ∧ q ≤ 9 ∧ c.I 2 i = nI q)
/-- what the lists' places are -/
def LyOK (E : En) (c : Cy) (ly : Ly) (ad : Nat → Nat → Nat) : Prop := ∀ i, i < 3 → c.R 10 i ≤ ly.2 i ∧ ly.2 i ≤ 100 ∧ (ly.2 i = 0 → ad 2 i = E.2 9)
/-- the reference's lists hold all objects that there are -/
def EqM (c : Cy) : Prop := c.R 10 0 = c.R 11 0 ∧ c.R 10 1 = c.R 11 1 ∧ c.R 10 2 = c.R 11 2
/-- the class's city in the heap, and the reference's -/
def PX (E : En) (c : Cy) (ly : Ly) (L : List Nat) (ad : Nat → Nat → Nat) (H : Heap) : Prop := PI E.1 L (cX E c ly ad) ad H ∧ LyOK E c ly ad ∧ (∀ q, q ∈ L → bA E q) ∧ WF c
def PM (E : En) (c : Cy) (th : Int32) (ly : Ly) (L : List Nat) (ad : Nat → Nat → Nat) (H : Heap) : Prop := PI E.1 L (cM E c th ly ad) ad H ∧ LyOK E c ly ad ∧ (∀ q, q ∈ L → bA E q) ∧ WF c ∧ EqM c
section WFS
variable {c : Cy}
theorem WF.nw (h : WF c) : c.R 11 0 ≤ 6 := h.1.1
theorem WF.nh (h : WF c) : c.R 11 1 ≤ 8 := h.1.2.1
theorem WF.nl (h : WF c) : c.R 11 2 ≤ 60 := h.1.2.2
theorem WF.sw (h : WF c) : c.R 10 0 ≤ c.R 11 0 := h.2.1.1
theorem WF.sh' (h : WF c) : c.R 10 1 ≤ c.R 11 1 := h.2.1.2.1
theorem WF.sl (h : WF c) : c.R 10 2 ≤ c.R 11 2 := h.2.1.2.2
theorem WF.wd (h : WF c) {i : Nat} (hi : i < c.R 11 0) : 4 ≤ c.R 1 i ∧ c.R 1 i ≤ 16 := ⟨(h.2.2.1 i hi).1, (h.2.2.1 i hi).2.1⟩
theorem WF.cl (h : WF c) {i : Nat} (hi : i < c.R 11 0) : c.R 2 i ≤ 20 := (h.2.2.1 i hi).2.2
theorem WF.us (h : WF c) {i : Nat} (hi : i < c.R 11 1) : c.R 3 i ≤ 360 := (h.2.2.2.1 i hi).1
theorem WF.sp (h : WF c) {i : Nat} (hi : i < c.R 11 1) : 1 ≤ c.R 4 i ∧ c.R 4 i ≤ 9 := (h.2.2.2.1 i hi).2
theorem WF.lh (h : WF c) {j : Nat} (hj : j < c.R 11 2) : c.R 5 j < c.R 11 1 := (h.2.2.2.2.1 j hj).1
theorem WF.lw (h : WF c) {j : Nat} (hj : j < c.R 11 2) : c.R 6 j < c.R 11 0 := (h.2.2.2.2.1 j hj).2.1
theorem WF.lk (h : WF c) {j : Nat} (hj : j < c.R 11 2) : c.R 9 j < 4 := (h.2.2.2.2.1 j hj).2.2.1
theorem WF.lf (h : WF c) {j : Nat} (hj : j < c.R 11 2) : 1 ≤ c.R 8 j ∧ c.R 7 j + c.R 8 j ≤ c.R 1 (c.R 6 j) := (h.2.2.2.2.1 j hj).2.2.2
theorem WF.sj (h : WF c) {i k j : Nat} (hi : i < c.R 11 0) (hk : k < c.R 1 i) (hs : c.sh i k = some j) : j < c.R 11 2 := h.2.2.2.2.2.1 i k j hi hk hs
theorem WF.nt (h : WF c) : c.R 0 0 ≤ 400 := h.2.2.2.2.2.2.1
theorem WF.w0 (h : WF c) {x k : Nat} (hx : x < c.R 11 1) (hk : c.R 11 1 ≤ k) : c.Wr x k = nI 0 := h.2.2.2.2.2.2.2.1 x k hx hk
theorem WF.wt (h : WF c) {i : Nat} (hi : i < c.R 11 0) : c.I 7 i = -1 ∨ ¬ c.I 6 i < 0 := h.2.2.2.2.2.2.2.2.1 i hi
theorem WF.sg (h : WF c) {i : Nat} (hi : i < c.R 11 0) : ∃ q : Nat, 1 ≤ q ∧ q ≤ 9 ∧ c.I 2 i = nI q := h.2.2.2.2.2.2.2.2.2 i hi
theorem sh_some {ad : Nat → Nat → Nat} {i k y : Nat} (h : (c.sh i k).map (ad 7) = some y) : ∃ j, c.sh i k = some j ∧ y = ad 7 j := by
  cases q : c.sh i k with
  | none => rw [q] at h; cases h
  | some j => rw [q] at h; exact ⟨j, rfl, (Option.some.inj h).symm⟩
theorem sh_none {ad : Nat → Nat → Nat} {i k : Nat} (h : (c.sh i k).map (ad 7) = none) : c.sh i k = none := by
  cases q : c.sh i k with
  | none => rfl
  | some j => rw [q] at h; cases h
theorem lsf_some {n j y : Nat} {g : Nat → Nat} (hj : j < n) (h : lsf n g j = some y) : y = g j := by
  unfold lsf at h
  rw [if_pos hj] at h
  exact (Option.some.inj h).symm
end WFS
