/-! what is asked, at its numbers -/
theorem ow0 {c : Cy} {i : Nat} : owS c i (nI 0) = nI (c.R 1 i) := by
  unfold owS
  rw [if_pos rfl]
theorem ow1 {c : Cy} {i : Nat} : owS c i (nI 1) = c.I 2 i := by
  unfold owS
  rw [if_neg (by decide), if_pos rfl]
theorem ow2 {c : Cy} {i : Nat} : owS c i (nI 2) = c.I 3 i := by
  unfold owS
  rw [if_neg (by decide), if_neg (by decide), if_pos rfl]
theorem ow3 {c : Cy} {i : Nat} : owS c i (nI 3) = pcS c i (nI (c.R 0 0)) := by
  unfold owS
  rw [if_neg (by decide), if_neg (by decide), if_neg (by decide), if_pos rfl]
theorem ow4 {c : Cy} {i : Nat} : owS c i (nI 4) = nI (cntN (pntB c i) (c.R 1 i)) := by
  unfold owS
  rw [if_neg (by decide), if_neg (by decide), if_neg (by decide), if_neg (by decide), if_pos rfl]
theorem ow5 {c : Cy} {i : Nat} : owS c i (nI 5) = eyS c i := by
  unfold owS
  rw [if_neg (by decide), if_neg (by decide), if_neg (by decide), if_neg (by decide), if_neg (by decide), if_pos rfl]
theorem ow6 {c : Cy} {i : Nat} : owS c i (nI 6) = nI (lsoS c i) := by
  unfold owS
  rw [if_neg (by decide), if_neg (by decide), if_neg (by decide), if_neg (by decide), if_neg (by decide), if_neg (by decide)]
theorem oh0 {c : Cy} {h : Nat} : ohS c h (nI 0) = c.I 8 h := by
  unfold ohS
  rw [if_pos rfl]
theorem oh1 {c : Cy} {h : Nat} : ohS c h (nI 1) = nI (360 - c.R 3 h) := by
  unfold ohS
  rw [if_neg (by decide), if_pos rfl]
theorem oh2 {c : Cy} {h : Nat} : ohS c h (nI 2) = c.I 11 h := by
  unfold ohS
  rw [if_neg (by decide), if_neg (by decide), if_pos rfl]
theorem oh3 {c : Cy} {h : Nat} : ohS c h (nI 3) = bI (c.B 0 h) := by
  unfold ohS
  rw [if_neg (by decide), if_neg (by decide), if_neg (by decide), if_pos rfl]
theorem oh4 {c : Cy} {h : Nat} : ohS c h (nI 4) = fmS c h := by
  unfold ohS
  rw [if_neg (by decide), if_neg (by decide), if_neg (by decide), if_neg (by decide), if_pos rfl]
theorem oh5 {c : Cy} {h : Nat} : ohS c h (nI 5) = nI (cntN (lofB c h) (c.R 10 2)) := by
  unfold ohS
  rw [if_neg (by decide), if_neg (by decide), if_neg (by decide), if_neg (by decide), if_neg (by decide), if_pos rfl]
theorem oh6 {c : Cy} {h : Nat} : ohS c h (nI 6) = nI (cntN (lsfB c h) (c.R 10 2)) := by
  unfold ohS
  rw [if_neg (by decide), if_neg (by decide), if_neg (by decide), if_neg (by decide), if_neg (by decide), if_neg (by decide), if_pos rfl]
theorem oh7 {c : Cy} {h : Nat} : ohS c h (nI 7) = smI (c.Wr h) 8 := by
  unfold ohS
  rw [if_neg (by decide), if_neg (by decide), if_neg (by decide), if_neg (by decide), if_neg (by decide), if_neg (by decide), if_neg (by decide), if_pos rfl]
theorem oh8 {c : Cy} {h : Nat} : ohS c h (nI 8) = smI (fun k => c.Wr k h) (c.R 10 1) := by
  unfold ohS
  rw [if_neg (by decide), if_neg (by decide), if_neg (by decide), if_neg (by decide), if_neg (by decide), if_neg (by decide), if_neg (by decide), if_neg (by decide), if_pos rfl]
theorem oh9 {c : Cy} {h : Nat} : ohS c h (nI 9) = c.I 14 h := by
  unfold ohS
  rw [if_neg (by decide), if_neg (by decide), if_neg (by decide), if_neg (by decide), if_neg (by decide), if_neg (by decide), if_neg (by decide), if_neg (by decide), if_neg (by decide), if_pos rfl]
theorem oh10 {c : Cy} {h : Nat} : ohS c h (nI 10) = c.I 13 h := by
  unfold ohS
  rw [if_neg (by decide), if_neg (by decide), if_neg (by decide), if_neg (by decide), if_neg (by decide), if_neg (by decide), if_neg (by decide), if_neg (by decide), if_neg (by decide), if_neg (by decide)]
theorem ol0 {c : Cy} {j : Nat} : olS c j (nI 0) = nI (c.R 5 j) := by
  unfold olS
  rw [if_pos rfl]
theorem ol1 {c : Cy} {j : Nat} : olS c j (nI 1) = nI (c.R 6 j) := by
  unfold olS
  rw [if_neg (by decide), if_pos rfl]
theorem ol2 {c : Cy} {j : Nat} : olS c j (nI 2) = nI (c.R 7 j) := by
  unfold olS
  rw [if_neg (by decide), if_neg (by decide), if_pos rfl]
theorem ol3 {c : Cy} {j : Nat} : olS c j (nI 3) = nI (c.R 8 j) := by
  unfold olS
  rw [if_neg (by decide), if_neg (by decide), if_neg (by decide), if_pos rfl]
theorem ol4 {c : Cy} {j : Nat} : olS c j (nI 4) = nI (c.R 9 j) := by
  unfold olS
  rw [if_neg (by decide), if_neg (by decide), if_neg (by decide), if_neg (by decide), if_pos rfl]
theorem ol5 {c : Cy} {j : Nat} : olS c j (nI 5) = c.I 16 j := by
  unfold olS
  rw [if_neg (by decide), if_neg (by decide), if_neg (by decide), if_neg (by decide), if_neg (by decide), if_pos rfl]
theorem ol6 {c : Cy} {j : Nat} : olS c j (nI 6) = bI (c.B 1 j) := by
  unfold olS
  rw [if_neg (by decide), if_neg (by decide), if_neg (by decide), if_neg (by decide), if_neg (by decide), if_neg (by decide), if_pos rfl]
theorem ol7 {c : Cy} {j : Nat} : olS c j (nI 7) = bI (c.B 2 j) := by
  unfold olS
  rw [if_neg (by decide), if_neg (by decide), if_neg (by decide), if_neg (by decide), if_neg (by decide), if_neg (by decide), if_neg (by decide), if_pos rfl]
theorem ol8 {c : Cy} {j : Nat} : olS c j (nI 8) = bI (c.B 3 j) := by
  unfold olS
  rw [if_neg (by decide), if_neg (by decide), if_neg (by decide), if_neg (by decide), if_neg (by decide), if_neg (by decide), if_neg (by decide), if_neg (by decide), if_pos rfl]
theorem ol9 {c : Cy} {j : Nat} : olS c j (nI 9) = nI (seenS c j) := by
  unfold olS
  rw [if_neg (by decide), if_neg (by decide), if_neg (by decide), if_neg (by decide), if_neg (by decide), if_neg (by decide), if_neg (by decide), if_neg (by decide), if_neg (by decide), if_pos rfl]
theorem ol10 {c : Cy} {j : Nat} : olS c j (nI 10) = slS c j := by
  unfold olS
  rw [if_neg (by decide), if_neg (by decide), if_neg (by decide), if_neg (by decide), if_neg (by decide), if_neg (by decide), if_neg (by decide), if_neg (by decide), if_neg (by decide), if_neg (by decide), if_pos rfl]
theorem ol11 {c : Cy} {j : Nat} : olS c j (nI 11) = rdS c j := by
  unfold olS
  rw [if_neg (by decide), if_neg (by decide), if_neg (by decide), if_neg (by decide), if_neg (by decide), if_neg (by decide), if_neg (by decide), if_neg (by decide), if_neg (by decide), if_neg (by decide), if_neg (by decide), if_pos rfl]
theorem ol12 {c : Cy} {j : Nat} : olS c j (nI 12) = prS c j := by
  unfold olS
  rw [if_neg (by decide), if_neg (by decide), if_neg (by decide), if_neg (by decide), if_neg (by decide), if_neg (by decide), if_neg (by decide), if_neg (by decide), if_neg (by decide), if_neg (by decide), if_neg (by decide), if_neg (by decide), if_pos rfl]
theorem ol13 {c : Cy} {j : Nat} : olS c j (nI 13) = suS c j := by
  unfold olS
  rw [if_neg (by decide), if_neg (by decide), if_neg (by decide), if_neg (by decide), if_neg (by decide), if_neg (by decide), if_neg (by decide), if_neg (by decide), if_neg (by decide), if_neg (by decide), if_neg (by decide), if_neg (by decide), if_neg (by decide)]
theorem ma0 {c : Cy} : maS c (nI 0) = nI (c.R 0 0) := by
  unfold maS
  rw [if_pos rfl]
theorem ma1 {c : Cy} : maS c (nI 1) = nI (c.R 10 0) := by
  unfold maS
  rw [if_neg (by decide), if_pos rfl]
theorem ma2 {c : Cy} : maS c (nI 2) = nI (c.R 10 1) := by
  unfold maS
  rw [if_neg (by decide), if_neg (by decide), if_pos rfl]
theorem ma3 {c : Cy} : maS c (nI 3) = nI (c.R 10 2) := by
  unfold maS
  rw [if_neg (by decide), if_neg (by decide), if_neg (by decide), if_pos rfl]
theorem ma4 {c : Cy} : maS c (nI 4) = nI (cntN (lseB c) (c.R 10 2)) := by
  unfold maS
  rw [if_neg (by decide), if_neg (by decide), if_neg (by decide), if_neg (by decide), if_pos rfl]
theorem ma5 {c : Cy} : maS c (nI 5) = c.I 0 0 := by
  unfold maS
  rw [if_neg (by decide), if_neg (by decide), if_neg (by decide), if_neg (by decide), if_neg (by decide), if_pos rfl]
theorem ma6 {c : Cy} : maS c (nI 6) = smI (fun k => smI (c.Wr k) 8) (c.R 10 1) := by
  unfold maS
  rw [if_neg (by decide), if_neg (by decide), if_neg (by decide), if_neg (by decide), if_neg (by decide), if_neg (by decide), if_pos rfl]
theorem ma7 {c : Cy} : maS c (nI 7) = nI (cntN (c.B 0) (c.R 10 1)) := by
  unfold maS
  rw [if_neg (by decide), if_neg (by decide), if_neg (by decide), if_neg (by decide), if_neg (by decide), if_neg (by decide), if_neg (by decide), if_pos rfl]
theorem ma8 {c : Cy} : maS c (nI 8) = smI (c.I 11) (c.R 10 1) := by
  unfold maS
  rw [if_neg (by decide), if_neg (by decide), if_neg (by decide), if_neg (by decide), if_neg (by decide), if_neg (by decide), if_neg (by decide), if_neg (by decide), if_pos rfl]
theorem ma9 {c : Cy} : maS c (nI 9) = smI (c.I 14) (c.R 10 1) := by
  unfold maS
  rw [if_neg (by decide), if_neg (by decide), if_neg (by decide), if_neg (by decide), if_neg (by decide), if_neg (by decide), if_neg (by decide), if_neg (by decide), if_neg (by decide), if_pos rfl]
theorem ma10 {c : Cy} : maS c (nI 10) = c.I 1 0 := by
  unfold maS
  rw [if_neg (by decide), if_neg (by decide), if_neg (by decide), if_neg (by decide), if_neg (by decide), if_neg (by decide), if_neg (by decide), if_neg (by decide), if_neg (by decide), if_neg (by decide), if_pos rfl]
theorem ma11 {c : Cy} : maS c (nI 11) = nI (cntN (lwsB c) (c.R 10 2)) := by
  unfold maS
  rw [if_neg (by decide), if_neg (by decide), if_neg (by decide), if_neg (by decide), if_neg (by decide), if_neg (by decide), if_neg (by decide), if_neg (by decide), if_neg (by decide), if_neg (by decide), if_neg (by decide)]
