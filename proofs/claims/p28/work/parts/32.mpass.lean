theorem cl_t {c : Cy} {z t : Nat} (h1 : 0 < c.R 2 z) (h2 : t % c.R 2 z = 0) : clnS c z t = true := by unfold clnS; simp [h1, h2]
theorem cl_f {c : Cy} {z t : Nat} (h2 : 0 < t % c.R 2 z) : clnS c z t = false := by unfold clnS; simp [Nat.pos_iff_ne_zero.mp h2]
theorem cl_0 {c : Cy} {z t : Nat} (h1 : c.R 2 z = 0) : clnS c z t = false := by unfold clnS; simp [h1]
