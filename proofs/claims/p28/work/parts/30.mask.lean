/-! the reference's calls from outside -/
theorem np_has {c : Cy} (wf : WF c) {i : Nat} (hi : i < c.R 11 0) {f w : Int32} : npS c i f w = !hasS c i f w := by
  have hW := wf.wd hi
  generalize hn : c.R 1 i = n at hW
  unfold npS hasS
  rw [hn]
  rw [Bool.eq_iff_iff]
  simp only [Bool.or_eq_true, Bool.not_eq_true', Bool.and_eq_false_iff, decide_eq_true_eq, decide_eq_false_iff_not, Bool.not_eq_false', Bool.not_eq_eq_eq_not, Bool.not_false, Bool.not_true]
  have e0 : ∀ x : Int32, x < 0 ↔ x.toInt < 0 := fun x => by rw [Int32.lt_iff_toInt_lt]; rfl
  have e1 : ∀ x : Int32, x < nI 1 ↔ x.toInt < 1 := fun x => by rw [Int32.lt_iff_toInt_lt]; rfl
  have bf := f.toInt_lt
  have bf2 := f.le_toInt
  have bw := w.toInt_lt
  have bw2 := w.le_toInt
  rw [e0, e1]
  by_cases h1 : f.toInt < 0
  · simp [h1]
  · by_cases h2 : w.toInt < 1
    · simp [h2]
    · have z1 : isZ (nI n - f) ((n : Int) - f.toInt) := isZ_sub (isZ_n (by omega)) rfl (by omega)
      have z2 : isZ (nI n - w) ((n : Int) - w.toInt) := isZ_sub (isZ_n (by omega)) rfl (by omega)
      rw [isZ_lt z2 (rfl : isZ f _), isZ_lt z1 (rfl : isZ w _), isZ_lt (isZ_n (n := n) (by omega)) (rfl : isZ w _)]
      simp only [h1, h2, false_or]
      omega
































