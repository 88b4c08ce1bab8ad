theorem ctu_ne {ct : Nat → Nat → Option va_E} {k i k' i' : Nat} {e x : va_E} (h : ¬ (k' = k ∧ i' = i)) (he : ct k' i' = some x) : ctu ct k i e k' i' = some x := (if_neg h).trans he
theorem tb_s {c : Cy} {i k j : Nat} (h : c.sh i k = some j) (e : (!c.B 1 j || !permS c (c.R 5 j) i) = true) : tbS c i k = true := by unfold tbS; rw [h]; exact e
theorem tb_f {c : Cy} {i k j : Nat} (h : c.sh i k = some j) (e : (!c.B 1 j || !permS c (c.R 5 j) i) = false) : tbS c i k = false := by unfold tbS; rw [h]; exact e
theorem tb_n {c : Cy} {i k : Nat} (h : c.sh i k = none) : tbS c i k = false := by unfold tbS; rw [h]
























