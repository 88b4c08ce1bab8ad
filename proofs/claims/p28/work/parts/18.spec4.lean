theorem isIn_t {i n : Nat} (h : i < n) (hn : n < 2 ^ 31) : isInS (nI i) (nI 0) (nI n - nI 1) = true := by
  unfold isInS
  have h1 : ¬ nI i < nI 0 := nI_nlt (Nat.zero_le _) (by omega)
  have h2 : ¬ nI n - nI 1 < nI i := by rw [pk_sub (by omega)]; exact nI_nlt (by omega) (by omega)
  simp [h1, h2]
theorem isIn_le {i n : Nat} (h : i ≤ n) (hn : n < 2 ^ 31) : isInS (nI i) (nI 0) (nI n) = true := by
  unfold isInS
  have h1 : ¬ nI i < nI 0 := nI_nlt (Nat.zero_le _) (by omega)
  have h2 : ¬ nI n < nI i := nI_nlt h hn
  simp [h1, h2]
theorem isIn_ofle {v : Int32} {n : Nat} (hn : n < 2 ^ 31) (h : isInS v (nI 0) (nI n) = true) : ∃ i, i ≤ n ∧ v = nI i := by
  unfold isInS at h
  simp only [Bool.and_eq_true, Bool.not_eq_true', decide_eq_false_iff_not] at h
  obtain ⟨j, hj, e⟩ := nI_of (x := v) (fun q => h.1 q)
  refine ⟨j, ?_, e⟩
  rw [e] at h
  exact Nat.not_lt.mp fun q => h.2 ((nI_ltI hn (by omega)).mpr q)
theorem isIn_of {v : Int32} {n : Nat} (hn : n < 2 ^ 31) (h : isInS v (nI 0) (nI n - nI 1) = true) : ∃ i, i < n ∧ v = nI i := by
  by_cases z : n = 0
  · subst z
    exfalso
    unfold isInS at h
    simp only [Bool.and_eq_true, Bool.not_eq_true', decide_eq_false_iff_not] at h
    obtain ⟨j, hj, e⟩ := nI_of (x := v) (fun q => h.1 q)
    apply h.2
    rw [e]
    have h1 := nI_toInt hj
    have h2 : (nI 0 - nI 1).toInt = -1 := by decide
    rw [Int32.lt_iff_toInt_lt, h1, h2]
    omega
  · rw [pk_sub (by omega)] at h
    obtain ⟨i, h1, h2⟩ := isIn_ofle (by omega) h
    exact ⟨i, by omega, h2⟩
theorem sw_dead (n : Nat) {w : Nat} (hw : w < n) (h : ∀ k : Nat, k < n → ¬ nI w = nI k) : False := h w hw rfl
/-- what is asked of a hand, of a layer, of the city -/
def ohS (c : Cy) (h : Nat) (v : Int32) : Int32 := if v = nI 0 then c.I 8 h else if v = nI 1 then nI (360 - c.R 3 h) else if v = nI 2 then c.I 11 h else if v = nI 3 then bI (c.B 0 h) else if v = nI 4 then fmS c h else if v = nI 5 then nI (cntN (lofB c h) (c.R 10 2)) else if v = nI 6 then nI (cntN (lsfB c h) (c.R 10 2)) else if v = nI 7 then smI (c.Wr h) 8 else if v = nI 8 then smI (fun k => c.Wr k h) (c.R 10 1) else if v = nI 9 then c.I 14 h else c.I 13 h
def olS (c : Cy) (j : Nat) (v : Int32) : Int32 := if v = nI 0 then nI (c.R 5 j) else if v = nI 1 then nI (c.R 6 j) else if v = nI 2 then nI (c.R 7 j) else if v = nI 3 then nI (c.R 8 j) else if v = nI 4 then nI (c.R 9 j) else if v = nI 5 then c.I 16 j else if v = nI 6 then bI (c.B 1 j) else if v = nI 7 then bI (c.B 2 j) else if v = nI 8 then bI (c.B 3 j) else if v = nI 9 then nI (seenS c j) else if v = nI 10 then slS c j else if v = nI 11 then rdS c j else if v = nI 12 then prS c j else suS c j
def maS (c : Cy) (v : Int32) : Int32 := if v = nI 0 then nI (c.R 0 0) else if v = nI 1 then nI (c.R 10 0) else if v = nI 2 then nI (c.R 10 1) else if v = nI 3 then nI (c.R 10 2) else if v = nI 4 then nI (cntN (lseB c) (c.R 10 2)) else if v = nI 5 then c.I 0 0 else if v = nI 6 then smI (fun k => smI (c.Wr k) 8) (c.R 10 1) else if v = nI 7 then nI (cntN (c.B 0) (c.R 10 1)) else if v = nI 8 then smI (c.I 11) (c.R 10 1) else if v = nI 9 then smI (c.I 14) (c.R 10 1) else if v = nI 10 then c.I 1 0 else nI (cntN (lwsB c) (c.R 10 2))
def lkS (c : Cy) (j k : Nat) : Int32 := nI 20 - absS (slS c j - slS c k) - absS (rdS c j - rdS c k)
def wbfS (c : Cy) (h n : Nat) : Int32 := smI (fun i => if wbcS c i n = true then nI 0 else wfS c i h) (c.R 10 0)
def mixS (d : Int64) (v : Int32) : Int64 := d * 31 + v.toInt64
/-- the checksum goes on over n numbers -/
def mixL (f : Nat → Int32) : Nat → Int64 → Int64
  | 0, d => d
  | n + 1, d => mixS (mixL f n d) (f n)
def mwS (c : Cy) (i : Nat) (d : Int64) : Int64 := mixL (fun k => shI c i k) (c.R 1 i) (mixL (fun k => owS c i (nI k)) 7 d)
def mhS (c : Cy) (h : Nat) (d : Int64) : Int64 := mixS (mixL (fun k => c.Wr h k) (c.R 10 1) (mixL (fun k => ohS c h (nI k)) 11 d)) (wbfS c h 7)
def mlS (c : Cy) (j : Nat) (d : Int64) : Int64 := mixL (fun k => olS c j (nI k)) 14 d
/-- the checksum goes on over n things -/
def runL (F : Nat → Int64 → Int64) : Nat → Int64 → Int64
  | 0, d => d
  | n + 1, d => F n (runL F n d)
theorem has_t {c : Cy} (wf : WF c) {i f u : Nat} (hi : i < c.R 11 0) (hf : f + u ≤ c.R 1 i) (hu : 1 ≤ u) : hasS c i (nI f) (nI u) = true := by
  have hw := wf.wd hi
  unfold hasS
  have h1 : ¬ nI f < 0 := nI_pos (by omega)
  have h2 : ¬ nI u < nI 1 := nI_nlt hu (by omega)
  have h3 : ¬ nI (c.R 1 i) - nI f < nI u := by rw [pk_sub (by omega)]; exact nI_nlt (by omega) (by omega)
  simp [h1, h2, h3]
