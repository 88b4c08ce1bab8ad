theorem seen_le {c : Cy} (wf : WF c) {j : Nat} (hj : j < c.R 11 2) : seenS c j ≤ 16 := Nat.le_trans (cntN_le _ _) (wf.wd (wf.lw hj)).2
theorem sw_out (n : Nat) {v : Int32} (h : ∀ k : Nat, k < n → ¬ v = nI k) : v.toInt < 0 ∨ ((n : Int) - 1) < v.toInt := by
  by_cases q : v.toInt < 0
  · exact Or.inl q
  · refine Or.inr ?_
    by_cases z : ((n : Int) - 1) < v.toInt
    · exact z
    · exfalso
      have h1 := nI_of (x := v) (fun w => by
        have := Int32.lt_iff_toInt_lt.mp w
        have e0 : (0 : Int32).toInt = 0 := by decide
        omega)
      obtain ⟨j, hj, e⟩ := h1
      have e2 := nI_toInt hj
      rw [← e] at e2
      exact h j (by omega) e
def newS (c : Cy) (i f k : Nat) : Bool := !anyS (fun z => decide (shI c i z = shI c i k)) f (k - f) && !decide (shI c i k = -1)
def iswL (c : Cy) (h j k : Nat) (lg : Bool) : Bool := if c.R 5 j = h then false else if c.B 3 j = true then true else !decide (c.I 8 (c.R 5 j) = c.I 8 h) && !decide (c.R 9 j < k) && decide (nI (c.R 0 0) - c.I 16 j < nI 20) && !lg
theorem isw_L (c : Cy) (h i j k : Nat) : iswS c h i j k = iswL c h j k (permS c h i) := rfl
theorem anyS_congr {P Q : Nat → Bool} : ∀ {n f : Nat}, (∀ q, f ≤ q → q < f + n → P q = Q q) → anyS P f n = anyS Q f n
  | 0, _, _ => rfl
  | n + 1, f, h => by
    show (P f || anyS P (f + 1) n) = (Q f || anyS Q (f + 1) n)
    rw [h f (Nat.le_refl f) (by omega), anyS_congr (fun q h1 h2 => h q (by omega) (by omega))]
theorem shI_iff {c : Cy} (wf : WF c) {i q j : Nat} (hi : i < c.R 11 0) (hq : q < c.R 1 i) (hj : j < c.R 11 2) : shI c i q = nI j ↔ c.sh i q = some j := by
  have h60 := wf.nl
  cases e : c.sh i q with
  | none =>
    rw [shI_n e]
    exact ⟨fun z => absurd z.symm (nI_m1 (by omega)), fun z => by cases z⟩
  | some y =>
    have hy := wf.sj hi hq e
    rw [shI_s e]
    exact ⟨fun z => by rw [(nI_eq (by omega) (by omega)).mp z], fun z => by rw [Option.some.inj z]⟩
theorem shI_none {c : Cy} (wf : WF c) {i q : Nat} (hi : i < c.R 11 0) (hq : q < c.R 1 i) : shI c i q = -1 ↔ c.sh i q = none := by
  have h60 := wf.nl
  cases e : c.sh i q with
  | none => exact ⟨fun _ => rfl, fun _ => shI_n e⟩
  | some y =>
    have hy := wf.sj hi hq e
    rw [shI_s e]
    exact ⟨fun z => absurd z (nI_m1 (by omega)), fun z => by cases z⟩
theorem new_s {c : Cy} (wf : WF c) {i f z j : Nat} (hi : i < c.R 11 0) (hz : z < c.R 1 i) (hf : f ≤ z) (e : c.sh i z = some j) : newS c i f z = !anyS (shwB c i j) f (z - f) := by
  have hj := wf.sj hi hz e
  unfold newS
  rw [anyS_congr (Q := shwB c i j) (fun q h1 h2 => by
    unfold shwB
    rw [shI_s e]
    exact decide_eq_decide.mpr (shI_iff wf hi (by omega) hj))]
  have : ¬ shI c i z = -1 := by rw [shI_s e]; exact nI_m1 (by have := wf.nl; omega)
  simp [this]
theorem wa_f {c : Cy} (wf : WF c) {h i f z kd : Nat} (hi : i < c.R 11 0) (hz : z < c.R 1 i) (hf : f ≤ z) (e : newS c i f z = false) : (waS c h i f z kd).isSome = false := by
  unfold waS
  cases q : c.sh i z with
  | none => rfl
  | some j =>
    rw [new_s wf hi hz hf q] at e
    have e2 : anyS (shwB c i j) f (z - f) = true := by simpa using e
    simp [e2]
theorem wa_s {c : Cy} (wf : WF c) {h i f z kd j : Nat} (hi : i < c.R 11 0) (hz : z < c.R 1 i) (hf : f ≤ z) (q : c.sh i z = some j) (e : newS c i f z = true) : (waS c h i f z kd).isSome = iswS c h i j kd := by
  unfold waS
  rw [new_s wf hi hz hf q] at e
  have e2 : anyS (shwB c i j) f (z - f) = false := by simpa using e
  rw [q]
  simp only [e2]
  cases iswS c h i j kd <;> rfl
def mnS (c : Cy) (i : Nat) (v : Int32) : Nat := cntN (fun k => decide (shI c i k = v)) (c.R 1 i)
theorem cntN_congr {P Q : Nat → Bool} : ∀ {n : Nat}, (∀ k, k < n → P k = Q k) → cntN P n = cntN Q n
  | 0, _ => rfl
  | n + 1, h => by
    show cntN P n + _ = cntN Q n + _
    rw [cntN_congr (fun k hk => h k (by omega)), h n (by omega)]
theorem cntN_not {P Q : Nat → Bool} : ∀ {n : Nat}, (∀ k, k < n → P k = !Q k) → cntN P n + cntN Q n = n
  | 0, _ => rfl
  | n + 1, h => by
    have h1 := cntN_not (n := n) (fun k hk => h k (by omega))
    have h2 := h n (by omega)
    show cntN P n + _ + (cntN Q n + _) = n + 1
    rw [h2]
    cases Q n <;> simp <;> omega
theorem mn_seen {c : Cy} (wf : WF c) {i j : Nat} (hi : i < c.R 11 0) (hj : j < c.R 11 2) : mnS c i (nI j) = csS c i j :=
  cntN_congr fun k hk => decide_eq_decide.mpr (shI_iff wf hi hk hj)
theorem mn_none {c : Cy} (wf : WF c) {i : Nat} (hi : i < c.R 11 0) : mnS c i (-1) + cntN (pntB c i) (c.R 1 i) = c.R 1 i := by
  refine cntN_not fun k hk => ?_
  unfold pntB
  cases e : c.sh i k with
  | none => rw [shI_n e]; rfl
  | some j =>
    have : ¬ shI c i k = -1 := by rw [(shI_none wf hi hk), e]; exact fun z => by cases z
    simp [this]
def watM (c : Cy) (i a b : Nat) : Bool := !decide (mfr c i = -1) && !decide (c.I 7 i < nI a) && decide (mfr c i < nI (a + b))
def npS (c : Cy) (i : Nat) (f w : Int32) : Bool := decide (f < 0) || decide (w < nI 1) || decide (nI (c.R 1 i) < w) || decide (nI (c.R 1 i) - w < f)
def loM (c : Cy) (h : Nat) (sn : Bool) (j : Nat) : Bool := decide (c.R 5 j = h) && (!sn || decide (0 < seenS c j))
def wrM (c : Cy) (h : Nat) (sn : Bool) (k : Nat) : Int32 := if sn = true then c.Wr h k else c.Wr k h
def slM (c : Cy) (sn : Bool) (j : Nat) : Bool := decide (0 < seenS c j) && (!sn || (!decide (suS c j = -1) && !decide (suS c j = nI (c.R 5 j))))
def gaS (c : Cy) (i k h : Nat) : Int32 := match c.sh i k with
  | none => nI 0
  | some j => if c.R 5 j = h then wtf (c.R 9 j) else nI 0
def gmS (c : Cy) (h i f w kd : Nat) : Int32 := smI (fun q => wtf kd - gaS c i (f + q) h) w
def icS (c : Cy) (i n : Nat) : Bool := !decide (c.R 2 i = 0) && decide (c.R 0 0 / c.R 2 i < (c.R 0 0 + n) / c.R 2 i)
/-- what is asked of a wall -/
def owS (c : Cy) (i : Nat) (v : Int32) : Int32 := if v = nI 0 then nI (c.R 1 i) else if v = nI 1 then c.I 2 i else if v = nI 2 then c.I 3 i else if v = nI 3 then pcS c i (nI (c.R 0 0)) else if v = nI 4 then nI (cntN (pntB c i) (c.R 1 i)) else if v = nI 5 then eyS c i else nI (lsoS c i)
