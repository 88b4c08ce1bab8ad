/-! what the start gives -/
abbrev gvC : List Cond := flatC (Jvm.Cond.and given_1 narrow_1)
section STR
variable {s : State} {b : Nat}
theorem st_str (hts : ∀ w ∈ lw_tbl, w.before #[Value.ref b] s = true) (hs : ∀ c ∈ gvC, c.before #[Value.ref b] s = true) {own tx : String} {k : Nat} (h1 : .stringRef own k tx ∈ lw_tbl) (h2 : .exactly (.string own k) "java/lang/String" ∈ gvC) : ∃ a, vk_R own k tx a s := by
  obtain ⟨a, _, _, _, he, -⟩ := Cond.exactly_spec (hs _ h2)
  exact ⟨a, vk_R.of (hts _ h1) he⟩
theorem st_tab (hts : ∀ w ∈ lw_tbl, w.before #[Value.ref b] s = true) (hs : ∀ c ∈ gvC, c.before #[Value.ref b] s = true) {C n : String} {f : Nat → Int32} (hl : .laysStatic C n "[I" ∈ lw_tbl) (hi : .initialized C ∈ lw_tbl) (h1 : .arrayOf (.static C n "[I") .int ∈ gvC) (h2 : .eq (.length (.static C n "[I")) (.int 4) ∈ gvC) (h3 : ∀ j, j < 4 → .eq (.elem (.static C n "[I") (.int (Int32.ofNat j))) (.int (f j)) ∈ gvC) : ∃ t : Nat, va_Z C n "[I" (.ref t) (fun q => s.heap.size ≤ q) s s.heap ∧ va_T .int t 4 (fun j => .int (f j)) (fun q => s.heap.size ≤ q) s s.heap := by
  have hA : ∀ a : Nat, a < s.heap.size → ¬ (fun q => s.heap.size ≤ q) a := fun a h => Nat.not_le.mpr h
  obtain ⟨t, h4, h5⟩ := va_Tof (N := 4) (f := fun j => .int (f j)) (by decide) (hs _ h1) (va_eqt (hs _ h2)) (fun j hj => va_eqt (hs _ (h3 j hj))) hA
  exact ⟨t, va_Zref (hts _ hl) (hts _ hi) h4 hA, h5⟩
theorem st_Wd (hts : ∀ w ∈ lw_tbl, w.before #[Value.ref b] s = true) : Wd s := by
  intro w hw hs
  have h1 := hts w hw
  by_cases hg : goodWord w = true
  · exact word_at (State.WarmedH.refl s) (good_of_word hg) h1
  · unfold stb at hs
    rcases (Bool.or_eq_true _ _).mp hs with q | q
    · exact absurd q hg
    · have ht : w.onTables = true := by
        unfold stn at q
        split at q <;> first | rfl | cases q
      exact va_Nw.of ht h1
theorem st_arr {ty : FieldType} (h : (Cond.arrayClass ty).before #[Value.ref b] s = true) : ∃ cA, ArrOfT s cA ty ∧ s.vm.findClass ("[" ++ ty.toString) = some cA := by
  obtain ⟨cA, kA, comp, h1, h2, h3⟩ := Cond.arrayClass_spec h
  exact ⟨cA, fun n z => ⟨fun k h => (by cases h), kA, h2, comp, h3⟩, h1⟩
theorem st_ovr {C : String} (h : (Cond.arrayOver (.object C)).before #[Value.ref b] s = true) : ∃ cA, ArrOfT s cA (.object C) ∧ va_RA s cA (.object C) := by
  obtain ⟨comp, cA, kA, h1, -, h2, h3, h4⟩ := Cond.arrayOver_spec h
  exact ⟨cA, fun n z => ⟨fun k h => (by cases h), kA, h2, comp, h3⟩, kA, comp, h2, h3, h1, h4⟩
end STR
set_option maxRecDepth 100000 in
theorem st_strs {s : State} {b : Nat} (hts : ∀ w ∈ lw_tbl, w.before #[Value.ref b] s = true) (hs : ∀ c ∈ gvC, c.before #[Value.ref b] s = true) : ∀ (j : Nat) (q : String × Nat × String), strl[j]? = some q → ∃ a, vk_R q.1 q.2.1 q.2.2 a s := by
  intro j q hq
  match j, hq with
  | 0, hq => cases hq; exact st_str hts hs (List.mem_append_right _ (List.mem_of_getElem? (i := 121) (by decide +kernel))) (by decide +kernel)
  | 1, hq => cases hq; exact st_str hts hs (List.mem_append_right _ (List.mem_of_getElem? (i := 161) (by decide +kernel))) (by decide +kernel)
  | 2, hq => cases hq; exact st_str hts hs (List.mem_append_right _ (List.mem_of_getElem? (i := 275) (by decide +kernel))) (by decide +kernel)
  | 3, hq => cases hq; exact st_str hts hs (List.mem_append_right _ (List.mem_of_getElem? (i := 276) (by decide +kernel))) (by decide +kernel)
  | 4, hq => cases hq; exact st_str hts hs (List.mem_append_right _ (List.mem_of_getElem? (i := 347) (by decide +kernel))) (by decide +kernel)
  | 5, hq => cases hq; exact st_str hts hs (List.mem_append_right _ (List.mem_of_getElem? (i := 368) (by decide +kernel))) (by decide +kernel)
  | 6, hq => cases hq; exact st_str hts hs (List.mem_append_right _ (List.mem_of_getElem? (i := 377) (by decide +kernel))) (by decide +kernel)
  | 7, hq => cases hq; exact st_str hts hs (List.mem_append_right _ (List.mem_of_getElem? (i := 404) (by decide +kernel))) (by decide +kernel)
  | 8, hq => cases hq; exact st_str hts hs (List.mem_append_right _ (List.mem_of_getElem? (i := 418) (by decide +kernel))) (by decide +kernel)
  | 9, hq => cases hq; exact st_str hts hs (List.mem_append_right _ (List.mem_of_getElem? (i := 453) (by decide +kernel))) (by decide +kernel)
  | 10, hq => cases hq; exact st_str hts hs (List.mem_append_right _ (List.mem_of_getElem? (i := 458) (by decide +kernel))) (by decide +kernel)
  | 11, hq => cases hq; exact st_str hts hs (List.mem_append_right _ (List.mem_of_getElem? (i := 459) (by decide +kernel))) (by decide +kernel)
  | 12, hq => cases hq; exact st_str hts hs (List.mem_append_right _ (List.mem_of_getElem? (i := 496) (by decide +kernel))) (by decide +kernel)
  | 13, hq => cases hq; exact st_str hts hs (List.mem_append_right _ (List.mem_of_getElem? (i := 521) (by decide +kernel))) (by decide +kernel)
  | 14, hq => cases hq; exact st_str hts hs (List.mem_append_right _ (List.mem_of_getElem? (i := 541) (by decide +kernel))) (by decide +kernel)
  | 15, hq => cases hq; exact st_str hts hs (List.mem_append_right _ (List.mem_of_getElem? (i := 570) (by decide +kernel))) (by decide +kernel)
  | 16, hq => cases hq; exact st_str hts hs (List.mem_append_right _ (List.mem_of_getElem? (i := 578) (by decide +kernel))) (by decide +kernel)
  | 17, hq => cases hq; exact st_str hts hs (List.mem_append_right _ (List.mem_of_getElem? (i := 616) (by decide +kernel))) (by decide +kernel)
  | 18, hq => cases hq; exact st_str hts hs (List.mem_append_right _ (List.mem_of_getElem? (i := 640) (by decide +kernel))) (by decide +kernel)
  | 19, hq => cases hq; exact st_str hts hs (List.mem_append_right _ (List.mem_of_getElem? (i := 675) (by decide +kernel))) (by decide +kernel)
  | 20, hq => cases hq; exact st_str hts hs (List.mem_append_right _ (List.mem_of_getElem? (i := 690) (by decide +kernel))) (by decide +kernel)
  | j + 21, hq => exact absurd hq (by simp [strl])
set_option maxRecDepth 100000 in
theorem st_t5 {s : State} {b : Nat} (hts : ∀ w ∈ lw_tbl, w.before #[Value.ref b] s = true) (hs : ∀ c ∈ gvC, c.before #[Value.ref b] s = true) : ∃ t : Nat, va_Z "Wallcode" "WEIGHTS" "[I" (.ref t) (fun q => s.heap.size ≤ q) s s.heap ∧ va_T .int t 4 (fun j => .int (wtf j)) (fun q => s.heap.size ≤ q) s s.heap :=
  st_tab hts hs (List.mem_append_right _ (List.mem_of_getElem? (i := 391) (by decide +kernel))) (List.mem_append_right _ (List.mem_of_getElem? (i := 1) (by decide +kernel))) (by decide +kernel) (by decide +kernel) (fun j hj => by match j, hj with | 0, _ => decide +kernel | 1, _ => decide +kernel | 2, _ => decide +kernel | 3, _ => decide +kernel)
set_option maxRecDepth 100000 in
theorem st_t6 {s : State} {b : Nat} (hts : ∀ w ∈ lw_tbl, w.before #[Value.ref b] s = true) (hs : ∀ c ∈ gvC, c.before #[Value.ref b] s = true) : ∃ t : Nat, va_Z "Wallcode" "CELL_MINUTES" "[I" (.ref t) (fun q => s.heap.size ≤ q) s s.heap ∧ va_T .int t 4 (fun j => .int (tkf j)) (fun q => s.heap.size ≤ q) s s.heap :=
  st_tab hts hs (List.mem_append_right _ (List.mem_of_getElem? (i := 689) (by decide +kernel))) (List.mem_append_right _ (List.mem_of_getElem? (i := 1) (by decide +kernel))) (by decide +kernel) (by decide +kernel) (fun j hj => by match j, hj with | 0, _ => decide +kernel | 1, _ => decide +kernel | 2, _ => decide +kernel | 3, _ => decide +kernel)
set_option maxHeartbeats 4000000 in
set_option maxRecDepth 100000 in
theorem st_all {s : State} {b : Nat} (hts : ∀ w ∈ lw_tbl, w.before #[Value.ref b] s = true) (hs : ∀ c ∈ gvC, c.before #[Value.ref b] s = true) : ∃ E : En, Cs E s ∧ E.2 0 = s.heap.size := by
  have hW := st_Wd hts
  have hA : ∀ a : Nat, a < s.heap.size → ¬ (fun q => s.heap.size ≤ q) a := fun a h => Nat.not_le.mpr h
  have hg := hW.hts #[Value.ref b]
  obtain ⟨c0, i0, hK0⟩ := u_known (C := RJx4a65c) (T := TJx4a65c) (N := 3) (n := 3) hg wU_Jx4a65c (hg _ wIa_Jx4a65c)
  obtain ⟨c1, i1, hK1⟩ := u_known (C := RJx4a65c) (T := TJx4a65c) (N := 3) (n := 3) hg wU_Jx4a65c (hg _ wIa_Jx4a65c)
  obtain ⟨c2, i2, hK2⟩ := u_known (C := RX0) (T := TX0) (N := 11) (n := 11) hg wU_X0 (hg _ wIa_X0)
  obtain ⟨c3, i3, hK3⟩ := u_known (C := RX1) (T := TX1) (N := 11) (n := 11) hg wU_X1 (hg _ wIa_X1)
  obtain ⟨c4, i4, hK4⟩ := u_known (C := RX2) (T := TX2) (N := 10) (n := 10) hg wU_X2 (hg _ wIa_X2)
  obtain ⟨c5, i5, hK5⟩ := u_known (C := RX3) (T := TX3) (N := 6) (n := 6) hg wU_X3 (hg _ wIa_X3)
  obtain ⟨aI, kI1, kI2⟩ := st_arr (ty := .int) (hts _ (List.mem_append_right _ (List.mem_of_getElem? (i := 329) (by decide +kernel))))
  obtain ⟨aL, kL⟩ := st_ovr (C := "Wallcode$Layer") (hts _ (List.mem_append_right _ (List.mem_of_getElem? (i := 175) (by decide +kernel))))
  obtain ⟨aO, kO⟩ := st_ovr (C := "java/lang/Object") (hts _ (List.mem_append_right _ (List.mem_of_getElem? (i := 261) (by decide +kernel))))
  obtain ⟨t5, h5⟩ := st_t5 hts hs
  obtain ⟨t6, h6⟩ := st_t6 hts hs
  obtain ⟨t9, h9a, h9⟩ := va_Tof (s := s) (args := #[Value.ref b]) (tm := .static "java/util/ArrayList" "DEFAULTCAPACITY_EMPTY_ELEMENTDATA" "[Ljava/lang/Object;") (ty := .object "java/lang/Object") (N := 0) (f := fun _ => .null) (by decide) (hs _ (by decide +kernel)) (va_eqt (hs _ (by decide +kernel))) (fun j hj => absurd hj (Nat.not_lt_zero _)) hA
  have h9z := va_Zref (hts _ (List.mem_append_right _ (List.mem_of_getElem? (i := 41) (by decide +kernel)))) (hts _ (List.mem_append_right _ (List.mem_of_getElem? (i := 4) (by decide +kernel)))) h9a hA
  have hU := vx_Zqof (A := fun q => s.heap.size ≤ q) (hts (.laysStatic Bundle.tN "UNASSIGNED_STACK" Bundle.steD) (List.mem_append_right _ (List.mem_of_getElem? (i := 107) (by decide +kernel)))) (hts _ (List.mem_append_right _ (List.mem_of_getElem? (i := 5) (by decide +kernel)))) (hs (.isRef (.static Bundle.tN "UNASSIGNED_STACK" Bundle.steD)) (by decide +kernel)) hA
  have hV := vx_Zqof (A := fun q => s.heap.size ≤ q) (hts (.laysStatic Bundle.tN "SUPPRESSED_SENTINEL" Bundle.listD) (List.mem_append_right _ (List.mem_of_getElem? (i := 109) (by decide +kernel)))) (hts _ (List.mem_append_right _ (List.mem_of_getElem? (i := 5) (by decide +kernel)))) (hs (.isRef (.static Bundle.tN "SUPPRESSED_SENTINEL" Bundle.listD)) (by decide +kernel)) hA
  obtain ⟨mi, hmi⟩ := va_Mi.of (C := "[Ljava/lang/Object;") (hs (.isRef (.mirror "[Ljava/lang/Object;")) (by decide +kernel))
  have hstr : ∀ j : Nat, ∃ a : Nat, ∀ q : String × Nat × String, strl[j]? = some q → vk_R q.1 q.2.1 q.2.2 a s := by
    intro j
    cases h : strl[j]? with
    | none => exact ⟨0, fun q hq => by cases hq⟩
    | some q =>
      obtain ⟨a, ha⟩ := st_strs hts hs j q h
      exact ⟨a, fun q' hq => by cases hq; exact ha⟩
  obtain ⟨fs, hfs⟩ := Classical.axiomOfChoice hstr
  obtain ⟨E, e1, e0, f1, f2, f3, f5, f6, f9, f10, f20⟩ : ∃ E : En, E.1 = (fun k => if k = 0 then c0 else if k = 1 then c1 else if k = 2 then c2 else if k = 3 then c3 else if k = 4 then c4 else c5, fun k => if k = 0 then i0 else if k = 1 then i1 else if k = 2 then i2 else if k = 3 then i3 else if k = 4 then i4 else i5) ∧ E.2 0 = s.heap.size ∧ E.2 1 = aI ∧ E.2 2 = aL ∧ E.2 3 = aO ∧ E.2 5 = t5 ∧ E.2 6 = t6 ∧ E.2 9 = t9 ∧ E.2 10 = mi ∧ ∀ j, E.2 (20 + j) = fs j :=
    ⟨(_, fun k => if k < 20 then (if k = 0 then s.heap.size else if k = 1 then aI else if k = 2 then aL else if k = 3 then aO else if k = 5 then t5 else if k = 6 then t6 else if k = 9 then t9 else mi) else fs (k - 20)), rfl, rfl, rfl, rfl, rfl, rfl, rfl, rfl, rfl, fun j => (if_neg (by omega)).trans (congrArg fs (by omega))⟩
  have nb : ∀ q, bA E q → (fun q => s.heap.size ≤ q) q := fun q h => by
    have h0 : E.2 0 ≤ q := h
    rw [e0] at h0
    exact h0
  refine ⟨E, ⟨⟨fun k q hq => ?_, fun k q hq => ?_⟩, hW, ⟨⟨?_, ?_⟩, ⟨?_, ?_⟩, trivial, trivial, ⟨?_, ?_⟩, ⟨hU.narrow nb, hV.narrow nb⟩⟩, Nat.le_of_eq e0, fun j q hq => ?_, ?_, va_AO.of (hts _ (List.mem_append_right _ (List.mem_of_getElem? (i := 175) (by decide +kernel)))), va_AO.of (hts _ (List.mem_append_right _ (List.mem_of_getElem? (i := 261) (by decide +kernel)))), trivial, trivial⟩, e0⟩
  · rw [e1]
    match k, hq with
    | 0, hq => cases hq; exact hK0
    | 1, hq => cases hq; exact hK1
    | 2, hq => cases hq; exact hK2
    | 3, hq => cases hq; exact hK3
    | 4, hq => cases hq; exact hK4
    | 5, hq => cases hq; exact hK5
    | k + 6, hq => exact absurd hq (by simp [vwCl])
  · match k, hq with
    | 0, hq => cases hq; show ArrOfT s (E.2 1) _ ∧ va_RA s (E.2 1) _; rw [f1]; exact ⟨kI1, kI2⟩
    | 1, hq => cases hq; show ArrOfT s (E.2 2) _ ∧ va_RA s (E.2 2) _; rw [f2]; exact kL
    | 2, hq => cases hq; show ArrOfT s (E.2 3) _ ∧ va_RA s (E.2 3) _; rw [f3]; exact kO
    | k + 3, hq => exact absurd hq (by simp [tyl])
  · rw [f5]; exact h5.1.narrow nb
  · rw [f5]; exact h5.2.narrow nb
  · rw [f6]; exact h6.1.narrow nb
  · rw [f6]; exact h6.2.narrow nb
  · rw [f9]; exact h9z.narrow nb
  · rw [f9]; exact h9.narrow nb
  · rw [f20]; exact hfs j q hq
  · rw [f10]; exact hmi
