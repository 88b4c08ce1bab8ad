/-! the reference's calls from outside -/
theorem np_has {c : Cy} (wf : WF c) {i : Nat} (hi : i < c.R 11 0) {f w : Int32} : npS c i f w = !hasS c i f w := by
  have hW := wf.wd hi
  generalize hn : c.R 1 i = n at hW
  unfold npS hasS
  rw [hn]
  rw [Bool.eq_iff_iff]
  simp only [Bool.or_eq_true, Bool.not_eq_true', Bool.and_eq_false_iff, decide_eq_true_eq, decide_eq_false_iff_not, Bool.not_eq_false', Bool.not_eq_eq_eq_not, Bool.not_false, Bool.not_true]
  have e0 : ∀ x : Int32, x < 0 ↔ x.toInt < 0 := fun x => by rw [Int32.lt_iff_toInt_lt]; rfl
  have e1 : ∀ x : Int32, x < nI 1 ↔ x.toInt < 1 := fun x => by rw [Int32.lt_iff_toInt_lt]; rfl
  have bf := f.toInt_lt
  have bf2 := f.le_toInt
  have bw := w.toInt_lt
  have bw2 := w.le_toInt
  rw [e0, e1]
  by_cases h1 : f.toInt < 0
  · simp [h1]
  · by_cases h2 : w.toInt < 1
    · simp [h2]
    · have z1 : isZ (nI n - f) ((n : Int) - f.toInt) := isZ_sub (isZ_n (by omega)) rfl (by omega)
      have z2 : isZ (nI n - w) ((n : Int) - w.toInt) := isZ_sub (isZ_n (by omega)) rfl (by omega)
      rw [isZ_lt z2 (rfl : isZ f _), isZ_lt z1 (rfl : isZ w _), isZ_lt (isZ_n (n := n) (by omega)) (rfl : isZ w _)]
      simp only [h1, h2, false_or]
      omega
set_option maxHeartbeats 4000000 in
set_option maxRecDepth 100000 in
theorem mX7_refuse_t (l : Launch) {E : En} {c : Cy} {ly : Ly} {L : List Nat} {ad : Nat → Nat → Nat} {H0 : Heap} (hX : PM E c (nI 0) ly L ad H0) (n : Nat) (hn : 1 ≤ n) (hn2 : n < 10) : MuI l yX7_refuse cX7_refuse 3 .boolean (rmk 0 0 0 0) [.ref (ad 0 0), .int (bI true), .int (nI n)] E H0 (bI true) (fun H1 => PM E c (nI n) ly L ad H1) (cA L H0) 0 0 := by
  obtain ⟨hP, hly, hLb, wf, eq0, eq1, eq2⟩ := id hX
  have wfx := wf
  refine ro_of (by decide) (Nat.le_of_ble_eq_true rfl) ?_
  intro p e s m below meth co ls hx hb hr hml hown hlocks hnm hC hU hl
  have hS : va_S (cA L H0) s.heap H0 [] := by rw [hU]; exact va_S.rf
  have hA : ∀ q, q ∈ L → cA L H0 q := fun q h => Or.inl h
  have hN : ∀ q, s.heap.size ≤ q → cA L H0 q := fun q h => Or.inr (by rw [← hU]; exact h)
  have hAb : ∀ q, cA L H0 q → bA E q := fun q h => h.elim (hLb q) (fun z => Nat.le_trans hC.2.2.2.1 (by rw [hU]; exact z))
  have hl : lv_has ls 3 [(0, .ref (ad 0 0)), (1, .int (bI true)), (2, .int (nI n))] := hl
  refine lv_iload_n hx hb dX7_refuse_0 rfl (lv_at hl 1 rfl) ?_
  refine lv_bif_eq (tgt := 16) hx hb dX7_refuse_1 (by decide) (fun c_1 => ?_) (fun c_1 => ?_)
  · skip
    exact absurd (c_1.symm.trans rfl) (by decide)
  · skip
    refine lv_aload_n hx hb dX7_refuse_4 rfl (lv_at hl 0 rfl) ?_
    refine pi_get hx hb hC hown hP fL_X7_26 0 0 cM_0 (v := .int (nI 0)) rfl dX7_refuse_5 ?_
    refine lv_ifN_ne (tgt := 16) hx hb dX7_refuse_8 (by decide) (by omega) (fun c_8 => ?_) (fun c_8 => ?_)
    · skip
      exact absurd c_8 (by decide)
    · skip
      refine lv_aload_n hx hb dX7_refuse_11 rfl (lv_at hl 0 rfl) ?_
      refine lv_iload_n hx hb dX7_refuse_12 rfl (lv_at hl 2 rfl) ?_
      refine pwM_thrown hx hb hC hown hX hS hA fP_X7_26 (v := nI n) dX7_refuse_13 (fun H locs hX hS => ?_)
      obtain ⟨hP, hly, hLb, wfx, ex0, ex1, ex2⟩ := id hX
      refine lv_aload_n hx hb dX7_refuse_16 rfl (lv_at hl 0 rfl) ?_
      refine pi_get hx hb hC hown hP fL_X7_26 0 0 cM_0 (v := .int (nI n)) rfl dX7_refuse_17 ?_
      refine lv_ifN_le (tgt := 27) hx hb dX7_refuse_20 (by decide) (by omega) (fun c_20 => ?_) (fun c_20 => ?_)
      · skip
        exact absurd c_20 (by omega)
      · skip
        refine lv_iconstN hx hb 1 dX7_refuse_23 (by decide) ?_
        refine lv_goto (tgt := 28) hx hb dX7_refuse_24 (by decide) ?_
        exact mu_zretB (b1 := true) hx hb hr hlocks hS (hX) (by decide) (by first | rfl | (simp [c_1, c_20]; done) | (simp [c_1, c_20]; omega) | (simp_all [c_1, c_20]; done)) dX7_refuse_28
set_option maxHeartbeats 4000000 in
set_option maxRecDepth 100000 in
theorem mX7_refuse_f (l : Launch) {E : En} {c : Cy} {ly : Ly} {L : List Nat} {ad : Nat → Nat → Nat} {H0 : Heap} (hX : PM E c (nI 0) ly L ad H0) (n : Nat)  : MuI l yX7_refuse cX7_refuse 3 .boolean (rmk 0 0 0 0) [.ref (ad 0 0), .int (bI false), .int (nI n)] E H0 (bI false) (fun H1 => PM E c (nI 0) ly L ad H1) (cA L H0) 0 0 := by
  obtain ⟨hP, hly, hLb, wf, eq0, eq1, eq2⟩ := id hX
  have wfx := wf
  refine ro_of (by decide) (Nat.le_of_ble_eq_true rfl) ?_
  intro p e s m below meth co ls hx hb hr hml hown hlocks hnm hC hU hl
  have hS : va_S (cA L H0) s.heap H0 [] := by rw [hU]; exact va_S.rf
  have hA : ∀ q, q ∈ L → cA L H0 q := fun q h => Or.inl h
  have hN : ∀ q, s.heap.size ≤ q → cA L H0 q := fun q h => Or.inr (by rw [← hU]; exact h)
  have hAb : ∀ q, cA L H0 q → bA E q := fun q h => h.elim (hLb q) (fun z => Nat.le_trans hC.2.2.2.1 (by rw [hU]; exact z))
  have hl : lv_has ls 3 [(0, .ref (ad 0 0)), (1, .int (bI false)), (2, .int (nI n))] := hl
  refine lv_iload_n hx hb dX7_refuse_0 rfl (lv_at hl 1 rfl) ?_
  refine lv_bif_eq (tgt := 16) hx hb dX7_refuse_1 (by decide) (fun c_1 => ?_) (fun c_1 => ?_)
  · skip
    refine lv_aload_n hx hb dX7_refuse_16 rfl (lv_at hl 0 rfl) ?_
    refine pi_get hx hb hC hown hP fL_X7_26 0 0 cM_0 (v := .int (nI 0)) rfl dX7_refuse_17 ?_
    refine lv_ifN_le (tgt := 27) hx hb dX7_refuse_20 (by decide) (by omega) (fun c_20 => ?_) (fun c_20 => ?_)
    · skip
      refine lv_iconstN hx hb 0 dX7_refuse_27 (by decide) ?_
      exact mu_zretB (b1 := false) hx hb hr hlocks hS (hX) (by decide) (by first | rfl | (simp [c_1, c_20]; done) | (simp [c_1, c_20]; omega) | (simp_all [c_1, c_20]; done)) dX7_refuse_28
    · skip
      refine lv_iconstN hx hb 1 dX7_refuse_23 (by decide) ?_
      refine lv_goto (tgt := 28) hx hb dX7_refuse_24 (by decide) ?_
      exact mu_zretB (b1 := true) hx hb hr hlocks hS (hX) (by decide) (by first | rfl | (simp [c_1, c_20]; done) | (simp [c_1, c_20]; omega) | (simp_all [c_1, c_20]; done)) dX7_refuse_28
  · skip
    exact absurd (c_1.symm.trans rfl) (by decide)
set_option maxHeartbeats 4000000 in
set_option maxRecDepth 100000 in
theorem mX7_start_t (l : Launch) {E : En} {c : Cy} {th : Int32} {ly : Ly} {L : List Nat} {ad : Nat → Nat → Nat} {H0 : Heap} (hX : PM E c th ly L ad H0) (n : Nat) (hn : 1 ≤ n) (hn2 : n < 10) : MuI l yX7_start cX7_start 3 .boolean (rmk 1 0 0 22) [.ref (ad 0 0), .int (bI true), .int (nI n)] E H0 (bI true) (fun H1 => PM E c (nI n) ly L ad H1) (cA L H0) 0 0 := by
  obtain ⟨hP, hly, hLb, wf, eq0, eq1, eq2⟩ := id hX
  have wfx := wf
  refine ro_of (by decide) (Nat.le_of_ble_eq_true rfl) ?_
  intro p e s m below meth co ls hx hb hr hml hown hlocks hnm hC hU hl
  have hS : va_S (cA L H0) s.heap H0 [] := by rw [hU]; exact va_S.rf
  have hA : ∀ q, q ∈ L → cA L H0 q := fun q h => Or.inl h
  have hN : ∀ q, s.heap.size ≤ q → cA L H0 q := fun q h => Or.inr (by rw [← hU]; exact h)
  have hAb : ∀ q, cA L H0 q → bA E q := fun q h => h.elim (hLb q) (fun z => Nat.le_trans hC.2.2.2.1 (by rw [hU]; exact z))
  have hl : lv_has ls 3 [(0, .ref (ad 0 0)), (1, .int (bI true)), (2, .int (nI n))] := hl
  refine lv_aload_n hx hb dX7_start_0 rfl (lv_at hl 0 rfl) ?_
  refine lv_iconstN hx hb 0 dX7_start_1 (by decide) ?_
  refine pwM_thrown hx hb hC hown hX hS hA fP_X7_26 (v := nI 0) dX7_start_2 (fun H locs hX hS => ?_)
  obtain ⟨hP, hly, hLb, wfx, ex0, ex1, ex2⟩ := id hX
  refine lv_aload_n hx hb dX7_start_5 rfl (lv_at hl 0 rfl) ?_
  refine lv_iload_n hx hb dX7_start_6 rfl (lv_at hl 1 rfl) ?_
  refine lv_iload_n hx hb dX7_start_7 rfl (lv_at hl 2 rfl) ?_
  refine mu_V (As := [.int (bI true), .int (nI n)]) (h0 := ad 0 0) (rest := []) (v := bI true) hx hb hml hown hC hS hAb (mX7_refuse_t l hX n (show 1 ≤ n by first | assumption | omega | decide | (simp only [decide_eq_false_iff_not, decide_eq_true_eq] at *; omega)) (show n < 10 by first | assumption | omega | decide | (simp only [decide_eq_false_iff_not, decide_eq_true_eq] at *; omega))) (fun q h => h.elim (hA q) (fun z => hN q (Nat.le_trans hS.1 z))) kV_X7_29 ⟨rfl, rfl⟩ ⟨Nat.le_of_ble_eq_true rfl, Nat.le_of_ble_eq_true rfl⟩ (hP.recv hC cM_0 rfl) rfl hl (Nat.le_of_ble_eq_true rfl) ⟨show 0 + 0 ≤ (0 : Nat) by omega, show 0 + 0 ≤ (0 : Nat) by omega⟩ dX7_start_8 (fun H locs hB hS9 hz hk => ?_)
  have hS := hS9
  have hX : PM E c (nI n) ly L ad H := hB
  obtain ⟨hP, hly, hLb, wfx, ex0, ex1, ex2⟩ := id hX
  exact mu_zretB (b1 := true) hx hb hr hlocks hS (hX) rfl (by first | rfl | (simp []; done) | (simp []; omega) | (simp_all []; done)) dX7_start_11
set_option maxHeartbeats 4000000 in
set_option maxRecDepth 100000 in
theorem mX7_start_f (l : Launch) {E : En} {c : Cy} {th : Int32} {ly : Ly} {L : List Nat} {ad : Nat → Nat → Nat} {H0 : Heap} (hX : PM E c th ly L ad H0) (n : Nat)  : MuI l yX7_start cX7_start 3 .boolean (rmk 1 0 0 22) [.ref (ad 0 0), .int (bI false), .int (nI n)] E H0 (bI false) (fun H1 => PM E c (nI 0) ly L ad H1) (cA L H0) 0 0 := by
  obtain ⟨hP, hly, hLb, wf, eq0, eq1, eq2⟩ := id hX
  have wfx := wf
  refine ro_of (by decide) (Nat.le_of_ble_eq_true rfl) ?_
  intro p e s m below meth co ls hx hb hr hml hown hlocks hnm hC hU hl
  have hS : va_S (cA L H0) s.heap H0 [] := by rw [hU]; exact va_S.rf
  have hA : ∀ q, q ∈ L → cA L H0 q := fun q h => Or.inl h
  have hN : ∀ q, s.heap.size ≤ q → cA L H0 q := fun q h => Or.inr (by rw [← hU]; exact h)
  have hAb : ∀ q, cA L H0 q → bA E q := fun q h => h.elim (hLb q) (fun z => Nat.le_trans hC.2.2.2.1 (by rw [hU]; exact z))
  have hl : lv_has ls 3 [(0, .ref (ad 0 0)), (1, .int (bI false)), (2, .int (nI n))] := hl
  refine lv_aload_n hx hb dX7_start_0 rfl (lv_at hl 0 rfl) ?_
  refine lv_iconstN hx hb 0 dX7_start_1 (by decide) ?_
  refine pwM_thrown hx hb hC hown hX hS hA fP_X7_26 (v := nI 0) dX7_start_2 (fun H locs hX hS => ?_)
  obtain ⟨hP, hly, hLb, wfx, ex0, ex1, ex2⟩ := id hX
  refine lv_aload_n hx hb dX7_start_5 rfl (lv_at hl 0 rfl) ?_
  refine lv_iload_n hx hb dX7_start_6 rfl (lv_at hl 1 rfl) ?_
  refine lv_iload_n hx hb dX7_start_7 rfl (lv_at hl 2 rfl) ?_
  refine mu_V (As := [.int (bI false), .int (nI n)]) (h0 := ad 0 0) (rest := []) (v := bI false) hx hb hml hown hC hS hAb (mX7_refuse_f l hX n ) (fun q h => h.elim (hA q) (fun z => hN q (Nat.le_trans hS.1 z))) kV_X7_29 ⟨rfl, rfl⟩ ⟨Nat.le_of_ble_eq_true rfl, Nat.le_of_ble_eq_true rfl⟩ (hP.recv hC cM_0 rfl) rfl hl (Nat.le_of_ble_eq_true rfl) ⟨show 0 + 0 ≤ (0 : Nat) by omega, show 0 + 0 ≤ (0 : Nat) by omega⟩ dX7_start_8 (fun H locs hB hS9 hz hk => ?_)
  have hS := hS9
  have hX : PM E c (nI 0) ly L ad H := hB
  obtain ⟨hP, hly, hLb, wfx, ex0, ex1, ex2⟩ := id hX
  exact mu_zretB (b1 := false) hx hb hr hlocks hS (hX) rfl (by first | rfl | (simp []; done) | (simp []; omega) | (simp_all []; done)) dX7_start_11
set_option maxHeartbeats 4000000 in
set_option maxRecDepth 100000 in
theorem mX7_many_g (l : Launch) {E : En} {c : Cy} {th : Int32} {ly : Ly} {L : List Nat} {ad : Nat → Nat → Nat} {H0 : Heap} (hX : PM E c th ly L ad H0) (w : Nat) (hw : w ≤ 11) : MuI l yX7_many cX7_many 2 .int (rmk 8 8 32 176) [.ref (ad 0 0), .int (nI w)] E H0 (maS c (nI w)) (fun H1 => PM E c (nI 0) ly L ad H1) (cA L H0) 8 32 := by
  obtain ⟨hP, hly, hLb, wf, eq0, eq1, eq2⟩ := id hX
  have wfx := wf
  refine ro_of (by decide) (Nat.le_of_ble_eq_true rfl) ?_
  intro p e s m below meth co ls hx hb hr hml hown hlocks hnm hC hU hl
  have hS : va_S (cA L H0) s.heap H0 [] := by rw [hU]; exact va_S.rf
  have hA : ∀ q, q ∈ L → cA L H0 q := fun q h => Or.inl h
  have hN : ∀ q, s.heap.size ≤ q → cA L H0 q := fun q h => Or.inr (by rw [← hU]; exact h)
  have hAb : ∀ q, cA L H0 q → bA E q := fun q h => h.elim (hLb q) (fun z => Nat.le_trans hC.2.2.2.1 (by rw [hU]; exact z))
  have hl : lv_has ls 2 [(0, .ref (ad 0 0)), (1, .int (nI w))] := hl
  refine lv_aload_n hx hb dX7_many_0 rfl (lv_at hl 0 rfl) ?_
  refine lv_iload_n hx hb dX7_many_1 rfl (lv_at hl 1 rfl) ?_
  refine lv_iconstN hx hb 0 dX7_many_2 (by decide) ?_
  refine lv_bipushN hx hb 11 dX7_many_3 (by decide) ?_
  refine ro_S (As := [.int (nI w), .int (nI 0), .int (nI 11)]) (rest := [.ref (ad 0 0)]) (v := bI (isInS (nI w) (nI 0) (nI 11))) hx hb hml hown hC hS hAb (mX7_isIn l (nI w) (nI 0) (nI 11) ) kS_X7_37 ⟨rfl, rfl⟩ ⟨Nat.le_of_ble_eq_true rfl, Nat.le_of_ble_eq_true rfl⟩ rfl hl (Nat.le_of_ble_eq_true rfl) ⟨show _ ≤ (8 : Nat) by omega, show _ ≤ (32 : Nat) by omega⟩ dX7_many_5 ?_
  refine lv_bif_ne (tgt := 15) hx hb dX7_many_8 (by decide) (fun c_8 => ?_) (fun c_8 => ?_)
  · skip
    refine lv_iconstN hx hb 0 dX7_many_15 (by decide) ?_
    refine lv_iconstN hx hb 1 dX7_many_16 (by decide) ?_
    refine mu_V (As := [.int (nI 0), .int (nI 1)]) (h0 := ad 0 0) (rest := []) (v := bI false) hx hb hml hown hC hS hAb (mX7_start_f l hX 1 ) (fun q h => h.elim (hA q) (fun z => hN q (Nat.le_trans hS.1 z))) kV_X7_41 ⟨rfl, rfl⟩ ⟨Nat.le_of_ble_eq_true rfl, Nat.le_of_ble_eq_true rfl⟩ (hP.recv hC cM_0 rfl) rfl hl (Nat.le_of_ble_eq_true rfl) ⟨show 0 + 0 ≤ (8 : Nat) by omega, show 0 + 0 ≤ (32 : Nat) by omega⟩ dX7_many_17 (fun H locs hB hS9 hz hk => ?_)
    have hS := hS9
    have hX : PM E c (nI 0) ly L ad H := hB
    obtain ⟨hP, hly, hLb, wfx, ex0, ex1, ex2⟩ := id hX
    refine lv_bif_eq (tgt := 27) hx hb dX7_many_20 (by decide) (fun c_20 => ?_) (fun c_20 => ?_)
    · skip
      refine lv_aload_n hx hb dX7_many_27 rfl (lv_at hl 0 rfl) ?_
      refine lv_iload_n hx hb dX7_many_28 rfl (lv_at hl 1 rfl) ?_
      refine mu_V (As := [.int (nI w)]) (h0 := ad 0 0) (rest := []) (v := maS c (nI w)) hx hb hml hown hC hS hAb (mX7_manyNow l hX w (show w ≤ 11 by first | assumption | omega | decide | (simp only [decide_eq_false_iff_not, decide_eq_true_eq] at *; omega))) (fun q h => h.elim (hA q) (fun z => hN q (Nat.le_trans hS.1 z))) kV_X7_258 ⟨rfl, rfl⟩ ⟨Nat.le_of_ble_eq_true rfl, Nat.le_of_ble_eq_true rfl⟩ (hP.recv hC cM_0 rfl) rfl hl (Nat.le_of_ble_eq_true rfl) ⟨show 0 + 8 ≤ (8 : Nat) by omega, show 0 + 32 ≤ (32 : Nat) by omega⟩ dX7_many_29 (fun H locs hB hS9 hz hk => ?_)
      have hS := hS9
      have hX : PM E c (nI 0) ly L ad H := hB
      obtain ⟨hP, hly, hLb, wfx, ex0, ex1, ex2⟩ := id hX
      exact mu_iret (x := maS c (nI w)) hx hb hr hlocks hS (hX) (by first | rfl | (simp [c_8, c_20]; done) | (simp [c_8, c_20]; omega) | (simp_all [c_8, c_20]; done)) dX7_many_32
    · skip
      exact absurd (c_20.symm.trans rfl) (by decide)
  · skip
    exact absurd (c_8.symm.trans (isIn_le hw (by decide))) (by decide)
set_option maxHeartbeats 4000000 in
set_option maxRecDepth 100000 in
theorem mX7_many_b (l : Launch) {E : En} {c : Cy} {th : Int32} {ly : Ly} {L : List Nat} {ad : Nat → Nat → Nat} {H0 : Heap} (hX : PM E c th ly L ad H0) (v : Int32) (hv : isInS v (nI 0) (nI 11) = false) : MuI l yX7_many cX7_many 2 .int (rmk 2 0 0 44) [.ref (ad 0 0), .int v] E H0 (nI 0) (fun H1 => PM E c (nI 1) ly L ad H1) (cA L H0) 0 0 := by
  obtain ⟨hP, hly, hLb, wf, eq0, eq1, eq2⟩ := id hX
  have wfx := wf
  refine ro_of (by decide) (Nat.le_of_ble_eq_true rfl) ?_
  intro p e s m below meth co ls hx hb hr hml hown hlocks hnm hC hU hl
  have hS : va_S (cA L H0) s.heap H0 [] := by rw [hU]; exact va_S.rf
  have hA : ∀ q, q ∈ L → cA L H0 q := fun q h => Or.inl h
  have hN : ∀ q, s.heap.size ≤ q → cA L H0 q := fun q h => Or.inr (by rw [← hU]; exact h)
  have hAb : ∀ q, cA L H0 q → bA E q := fun q h => h.elim (hLb q) (fun z => Nat.le_trans hC.2.2.2.1 (by rw [hU]; exact z))
  have hl : lv_has ls 2 [(0, .ref (ad 0 0)), (1, .int v)] := hl
  refine lv_aload_n hx hb dX7_many_0 rfl (lv_at hl 0 rfl) ?_
  refine lv_iload_n hx hb dX7_many_1 rfl (lv_at hl 1 rfl) ?_
  refine lv_iconstN hx hb 0 dX7_many_2 (by decide) ?_
  refine lv_bipushN hx hb 11 dX7_many_3 (by decide) ?_
  refine ro_S (As := [.int v, .int (nI 0), .int (nI 11)]) (rest := [.ref (ad 0 0)]) (v := bI (isInS v (nI 0) (nI 11))) hx hb hml hown hC hS hAb (mX7_isIn l v (nI 0) (nI 11) ) kS_X7_37 ⟨rfl, rfl⟩ ⟨Nat.le_of_ble_eq_true rfl, Nat.le_of_ble_eq_true rfl⟩ rfl hl (Nat.le_of_ble_eq_true rfl) ⟨show _ ≤ (0 : Nat) by omega, show _ ≤ (0 : Nat) by omega⟩ dX7_many_5 ?_
  refine lv_bif_ne (tgt := 15) hx hb dX7_many_8 (by decide) (fun c_8 => ?_) (fun c_8 => ?_)
  · skip
    exact absurd (c_8.symm.trans hv) (by decide)
  · skip
    refine lv_iconstN hx hb 1 dX7_many_11 (by decide) ?_
    refine lv_goto (tgt := 16) hx hb dX7_many_12 (by decide) ?_
    refine lv_iconstN hx hb 1 dX7_many_16 (by decide) ?_
    refine mu_V (As := [.int (nI 1), .int (nI 1)]) (h0 := ad 0 0) (rest := []) (v := bI true) hx hb hml hown hC hS hAb (mX7_start_t l hX 1 (show 1 ≤ 1 by first | assumption | omega | decide | (simp only [decide_eq_false_iff_not, decide_eq_true_eq] at *; omega)) (show 1 < 10 by first | assumption | omega | decide | (simp only [decide_eq_false_iff_not, decide_eq_true_eq] at *; omega))) (fun q h => h.elim (hA q) (fun z => hN q (Nat.le_trans hS.1 z))) kV_X7_41 ⟨rfl, rfl⟩ ⟨Nat.le_of_ble_eq_true rfl, Nat.le_of_ble_eq_true rfl⟩ (hP.recv hC cM_0 rfl) rfl hl (Nat.le_of_ble_eq_true rfl) ⟨show 0 + 0 ≤ (0 : Nat) by omega, show 0 + 0 ≤ (0 : Nat) by omega⟩ dX7_many_17 (fun H locs hB hS9 hz hk => ?_)
    have hS := hS9
    have hX : PM E c (nI 1) ly L ad H := hB
    obtain ⟨hP, hly, hLb, wfx, ex0, ex1, ex2⟩ := id hX
    refine lv_bif_eq (tgt := 27) hx hb dX7_many_20 (by decide) (fun c_20 => ?_) (fun c_20 => ?_)
    · skip
      exact absurd (c_20.symm.trans rfl) (by decide)
    · skip
      refine lv_iconstN hx hb 0 dX7_many_23 (by decide) ?_
      refine lv_goto (tgt := 32) hx hb dX7_many_24 (by decide) ?_
      exact mu_iret (x := nI 0) hx hb hr hlocks hS (hX) (by first | rfl | (simp [c_8, c_20]; done) | (simp [c_8, c_20]; omega) | (simp_all [c_8, c_20]; done)) dX7_many_32
set_option maxHeartbeats 4000000 in
set_option maxRecDepth 100000 in
theorem mX7_nextBuff_g (l : Launch) {E : En} {c : Cy} {th : Int32} {ly : Ly} {L : List Nat} {ad : Nat → Nat → Nat} {H0 : Heap} (hX : PM E c th ly L ad H0)   : MuI l yX7_nextBuff cX7_nextBuff 1 .int (rmk 7 0 0 158) [.ref (ad 0 0)] E H0 (nbS c) (fun H1 => PM E c (nI 0) ly L ad H1) (cA L H0) 0 0 := by
  obtain ⟨hP, hly, hLb, wf, eq0, eq1, eq2⟩ := id hX
  have wfx := wf
  refine ro_of (by decide) (Nat.le_of_ble_eq_true rfl) ?_
  intro p e s m below meth co ls hx hb hr hml hown hlocks hnm hC hU hl
  have hS : va_S (cA L H0) s.heap H0 [] := by rw [hU]; exact va_S.rf
  have hA : ∀ q, q ∈ L → cA L H0 q := fun q h => Or.inl h
  have hN : ∀ q, s.heap.size ≤ q → cA L H0 q := fun q h => Or.inr (by rw [← hU]; exact h)
  have hAb : ∀ q, cA L H0 q → bA E q := fun q h => h.elim (hLb q) (fun z => Nat.le_trans hC.2.2.2.1 (by rw [hU]; exact z))
  have hl : lv_has ls 1 [(0, .ref (ad 0 0))] := hl
  refine lv_aload_n hx hb dX7_nextBuff_0 rfl (lv_at hl 0 rfl) ?_
  refine lv_iconstN hx hb 0 dX7_nextBuff_1 (by decide) ?_
  refine pwM_thrown hx hb hC hown hX hS hA fP_X7_26 (v := nI 0) dX7_nextBuff_2 (fun H locs hX hS => ?_)
  obtain ⟨hP, hly, hLb, wfx, ex0, ex1, ex2⟩ := id hX
  refine lv_aload_n hx hb dX7_nextBuff_5 rfl (lv_at hl 0 rfl) ?_
  refine ro_V (As := []) (h0 := ad 0 0) (rest := []) (v := nbS c) hx hb hml hown hC hS hAb (mX7_nextBuffNow l hX  ) kV_X7_271 ⟨rfl, rfl⟩ ⟨Nat.le_of_ble_eq_true rfl, Nat.le_of_ble_eq_true rfl⟩ (hP.recv hC cM_0 rfl) rfl hl (Nat.le_of_ble_eq_true rfl) ⟨show _ ≤ (0 : Nat) by omega, show _ ≤ (0 : Nat) by omega⟩ dX7_nextBuff_6 ?_
  exact mu_iret (x := nbS c) hx hb hr hlocks hS (hX) (by first | rfl | (simp []; done) | (simp []; omega) | (simp_all []; done)) dX7_nextBuff_9
set_option maxHeartbeats 4000000 in
set_option maxRecDepth 100000 in
theorem mX7_ofWall_g (l : Launch) {E : En} {c : Cy} {th : Int32} {ly : Ly} {L : List Nat} {ad : Nat → Nat → Nat} {H0 : Heap} (hX : PM E c th ly L ad H0) (i w : Nat) (hi : i < c.R 10 0) (hw : w ≤ 6) : MuI l yX7_ofWall cX7_ofWall 3 .int (rmk 7 0 0 157) [.ref (ad 0 0), .int (nI i), .int (nI w)] E H0 (owS c i (nI w)) (fun H1 => PM E c (nI 0) ly L ad H1) (cA L H0) 0 0 := by
  obtain ⟨hP, hly, hLb, wf, eq0, eq1, eq2⟩ := id hX
  have wfx := wf
  refine ro_of (by decide) (Nat.le_of_ble_eq_true rfl) ?_
  intro p e s m below meth co ls hx hb hr hml hown hlocks hnm hC hU hl
  have hS : va_S (cA L H0) s.heap H0 [] := by rw [hU]; exact va_S.rf
  have hA : ∀ q, q ∈ L → cA L H0 q := fun q h => Or.inl h
  have hN : ∀ q, s.heap.size ≤ q → cA L H0 q := fun q h => Or.inr (by rw [← hU]; exact h)
  have hAb : ∀ q, cA L H0 q → bA E q := fun q h => h.elim (hLb q) (fun z => Nat.le_trans hC.2.2.2.1 (by rw [hU]; exact z))
  have hl : lv_has ls 3 [(0, .ref (ad 0 0)), (1, .int (nI i)), (2, .int (nI w))] := hl
  refine lv_aload_n hx hb dX7_ofWall_0 rfl (lv_at hl 0 rfl) ?_
  refine lv_aload_n hx hb dX7_ofWall_1 rfl (lv_at hl 0 rfl) ?_
  refine lv_iload_n hx hb dX7_ofWall_2 rfl (lv_at hl 1 rfl) ?_
  refine ro_V (As := [.int (nI i)]) (h0 := ad 0 0) (rest := [.ref (ad 0 0)]) (v := bI (!isInS (nI i) (nI 0) (nI (c.R 10 0) - nI 1))) hx hb hml hown hC hS hAb (mX7_isNoWall l hX (nI i) ) kV_X7_56 ⟨rfl, rfl⟩ ⟨Nat.le_of_ble_eq_true rfl, Nat.le_of_ble_eq_true rfl⟩ (hP.recv hC cM_0 rfl) rfl hl (Nat.le_of_ble_eq_true rfl) ⟨show _ ≤ (0 : Nat) by omega, show _ ≤ (0 : Nat) by omega⟩ dX7_ofWall_3 ?_
  refine lv_iconstN hx hb 1 dX7_ofWall_6 (by decide) ?_
  rw [(by rw [isIn_t hi (by have := wf.sw; have := wf.sh'; have := wf.sl; have := wf.nw; have := wf.nh; have := wf.nl; omega)]; rfl : (!isInS (nI i) (nI 0) (nI (c.R 10 0) - nI 1)) = false)]
  refine mu_V (As := [.int (bI false), .int (nI 1)]) (h0 := ad 0 0) (rest := []) (v := bI false) hx hb hml hown hC hS hAb (mX7_start_f l hX 1 ) (fun q h => h.elim (hA q) (fun z => hN q (Nat.le_trans hS.1 z))) kV_X7_41 ⟨rfl, rfl⟩ ⟨Nat.le_of_ble_eq_true rfl, Nat.le_of_ble_eq_true rfl⟩ (hP.recv hC cM_0 rfl) rfl hl (Nat.le_of_ble_eq_true rfl) ⟨show 0 + 0 ≤ (0 : Nat) by omega, show 0 + 0 ≤ (0 : Nat) by omega⟩ dX7_ofWall_7 (fun H locs hB hS9 hz hk => ?_)
  have hS := hS9
  have hX : PM E c (nI 0) ly L ad H := hB
  obtain ⟨hP, hly, hLb, wfx, ex0, ex1, ex2⟩ := id hX
  refine lv_bif_ne (tgt := 36) hx hb dX7_ofWall_10 (by decide) (fun c_10 => ?_) (fun c_10 => ?_)
  · skip
    exact absurd (c_10.symm.trans rfl) (by decide)
  · skip
    refine lv_aload_n hx hb dX7_ofWall_13 rfl (lv_at hl 0 rfl) ?_
    refine lv_iload_n hx hb dX7_ofWall_14 rfl (lv_at hl 2 rfl) ?_
    refine lv_iconstN hx hb 0 dX7_ofWall_15 (by decide) ?_
    refine lv_bipushN hx hb 6 dX7_ofWall_16 (by decide) ?_
    refine ro_S (As := [.int (nI w), .int (nI 0), .int (nI 6)]) (rest := [.ref (ad 0 0)]) (v := bI (isInS (nI w) (nI 0) (nI 6))) hx hb hml hown hC hS hAb (mX7_isIn l (nI w) (nI 0) (nI 6) ) kS_X7_37 ⟨rfl, rfl⟩ ⟨Nat.le_of_ble_eq_true rfl, Nat.le_of_ble_eq_true rfl⟩ rfl hl (Nat.le_of_ble_eq_true rfl) ⟨show _ ≤ (0 : Nat) by omega, show _ ≤ (0 : Nat) by omega⟩ dX7_ofWall_18 ?_
    refine lv_bif_ne (tgt := 28) hx hb dX7_ofWall_21 (by decide) (fun c_21 => ?_) (fun c_21 => ?_)
    · skip
      refine lv_iconstN hx hb 0 dX7_ofWall_28 (by decide) ?_
      refine lv_iconstN hx hb 2 dX7_ofWall_29 (by decide) ?_
      refine mu_V (As := [.int (nI 0), .int (nI 2)]) (h0 := ad 0 0) (rest := []) (v := bI false) hx hb hml hown hC hS hAb (mX7_refuse_f l hX 2 ) (fun q h => h.elim (hA q) (fun z => hN q (Nat.le_trans hS.1 z))) kV_X7_29 ⟨rfl, rfl⟩ ⟨Nat.le_of_ble_eq_true rfl, Nat.le_of_ble_eq_true rfl⟩ (hP.recv hC cM_0 rfl) rfl hl (Nat.le_of_ble_eq_true rfl) ⟨show 0 + 0 ≤ (0 : Nat) by omega, show 0 + 0 ≤ (0 : Nat) by omega⟩ dX7_ofWall_30 (fun H locs hB hS9 hz hk => ?_)
      have hS := hS9
      have hX : PM E c (nI 0) ly L ad H := hB
      obtain ⟨hP, hly, hLb, wfx, ex0, ex1, ex2⟩ := id hX
      refine lv_bif_eq (tgt := 40) hx hb dX7_ofWall_33 (by decide) (fun c_33 => ?_) (fun c_33 => ?_)
      · skip
        refine lv_aload_n hx hb dX7_ofWall_40 rfl (lv_at hl 0 rfl) ?_
        refine lv_iload_n hx hb dX7_ofWall_41 rfl (lv_at hl 1 rfl) ?_
        refine lv_iload_n hx hb dX7_ofWall_42 rfl (lv_at hl 2 rfl) ?_
        refine ro_V (As := [.int (nI i), .int (nI w)]) (h0 := ad 0 0) (rest := []) (v := owS c i (nI w)) hx hb hml hown hC hS hAb (mX7_ofWallNow l hX i (nI w) (show i < c.R 11 0 by first | assumption | omega | decide | (simp only [decide_eq_false_iff_not, decide_eq_true_eq] at *; omega))) kV_X7_221 ⟨rfl, rfl⟩ ⟨Nat.le_of_ble_eq_true rfl, Nat.le_of_ble_eq_true rfl⟩ (hP.recv hC cM_0 rfl) rfl hl (Nat.le_of_ble_eq_true rfl) ⟨show _ ≤ (0 : Nat) by omega, show _ ≤ (0 : Nat) by omega⟩ dX7_ofWall_43 ?_
        exact mu_iret (x := owS c i (nI w)) hx hb hr hlocks hS (hX) (by first | rfl | (simp [c_10, c_21, c_33]; done) | (simp [c_10, c_21, c_33]; omega) | (simp_all [c_10, c_21, c_33]; done)) dX7_ofWall_46
      · skip
        exact absurd (c_33.symm.trans rfl) (by decide)
    · skip
      exact absurd (c_21.symm.trans (isIn_le hw (by decide))) (by decide)
set_option maxHeartbeats 4000000 in
set_option maxRecDepth 100000 in
theorem mX7_ofWall_b1 (l : Launch) {E : En} {c : Cy} {th : Int32} {ly : Ly} {L : List Nat} {ad : Nat → Nat → Nat} {H0 : Heap} (hX : PM E c th ly L ad H0) (v w : Int32) (hv : isInS v (nI 0) (nI (c.R 10 0) - nI 1) = false) : MuI l yX7_ofWall cX7_ofWall 3 .int (rmk 2 0 0 44) [.ref (ad 0 0), .int v, .int w] E H0 (nI 0) (fun H1 => PM E c (nI 1) ly L ad H1) (cA L H0) 0 0 := by
  obtain ⟨hP, hly, hLb, wf, eq0, eq1, eq2⟩ := id hX
  have wfx := wf
  refine ro_of (by decide) (Nat.le_of_ble_eq_true rfl) ?_
  intro p e s m below meth co ls hx hb hr hml hown hlocks hnm hC hU hl
  have hS : va_S (cA L H0) s.heap H0 [] := by rw [hU]; exact va_S.rf
  have hA : ∀ q, q ∈ L → cA L H0 q := fun q h => Or.inl h
  have hN : ∀ q, s.heap.size ≤ q → cA L H0 q := fun q h => Or.inr (by rw [← hU]; exact h)
  have hAb : ∀ q, cA L H0 q → bA E q := fun q h => h.elim (hLb q) (fun z => Nat.le_trans hC.2.2.2.1 (by rw [hU]; exact z))
  have hl : lv_has ls 3 [(0, .ref (ad 0 0)), (1, .int v), (2, .int w)] := hl
  refine lv_aload_n hx hb dX7_ofWall_0 rfl (lv_at hl 0 rfl) ?_
  refine lv_aload_n hx hb dX7_ofWall_1 rfl (lv_at hl 0 rfl) ?_
  refine lv_iload_n hx hb dX7_ofWall_2 rfl (lv_at hl 1 rfl) ?_
  refine ro_V (As := [.int v]) (h0 := ad 0 0) (rest := [.ref (ad 0 0)]) (v := bI (!isInS v (nI 0) (nI (c.R 10 0) - nI 1))) hx hb hml hown hC hS hAb (mX7_isNoWall l hX v ) kV_X7_56 ⟨rfl, rfl⟩ ⟨Nat.le_of_ble_eq_true rfl, Nat.le_of_ble_eq_true rfl⟩ (hP.recv hC cM_0 rfl) rfl hl (Nat.le_of_ble_eq_true rfl) ⟨show _ ≤ (0 : Nat) by omega, show _ ≤ (0 : Nat) by omega⟩ dX7_ofWall_3 ?_
  refine lv_iconstN hx hb 1 dX7_ofWall_6 (by decide) ?_
  rw [(by rw [hv]; rfl : (!isInS v (nI 0) (nI (c.R 10 0) - nI 1)) = true)]
  refine mu_V (As := [.int (bI true), .int (nI 1)]) (h0 := ad 0 0) (rest := []) (v := bI true) hx hb hml hown hC hS hAb (mX7_start_t l hX 1 (show 1 ≤ 1 by first | assumption | omega | decide | (simp only [decide_eq_false_iff_not, decide_eq_true_eq] at *; omega)) (show 1 < 10 by first | assumption | omega | decide | (simp only [decide_eq_false_iff_not, decide_eq_true_eq] at *; omega))) (fun q h => h.elim (hA q) (fun z => hN q (Nat.le_trans hS.1 z))) kV_X7_41 ⟨rfl, rfl⟩ ⟨Nat.le_of_ble_eq_true rfl, Nat.le_of_ble_eq_true rfl⟩ (hP.recv hC cM_0 rfl) rfl hl (Nat.le_of_ble_eq_true rfl) ⟨show 0 + 0 ≤ (0 : Nat) by omega, show 0 + 0 ≤ (0 : Nat) by omega⟩ dX7_ofWall_7 (fun H locs hB hS9 hz hk => ?_)
  have hS := hS9
  have hX : PM E c (nI 1) ly L ad H := hB
  obtain ⟨hP, hly, hLb, wfx, ex0, ex1, ex2⟩ := id hX
  refine lv_bif_ne (tgt := 36) hx hb dX7_ofWall_10 (by decide) (fun c_10 => ?_) (fun c_10 => ?_)
  · skip
    refine lv_iconstN hx hb 0 dX7_ofWall_36 (by decide) ?_
    refine lv_goto (tgt := 46) hx hb dX7_ofWall_37 (by decide) ?_
    exact mu_iret (x := nI 0) hx hb hr hlocks hS (hX) (by first | rfl | (simp [c_10]; done) | (simp [c_10]; omega) | (simp_all [c_10]; done)) dX7_ofWall_46
  · skip
    exact absurd (c_10.symm.trans rfl) (by decide)
set_option maxHeartbeats 4000000 in
set_option maxRecDepth 100000 in
theorem mX7_ofWall_b2 (l : Launch) {E : En} {c : Cy} {th : Int32} {ly : Ly} {L : List Nat} {ad : Nat → Nat → Nat} {H0 : Heap} (hX : PM E c th ly L ad H0) (i : Nat) (w : Int32) (hi : i < c.R 10 0) (hw : isInS w (nI 0) (nI 6) = false) : MuI l yX7_ofWall cX7_ofWall 3 .int (rmk 2 0 0 44) [.ref (ad 0 0), .int (nI i), .int w] E H0 (nI 0) (fun H1 => PM E c (nI 2) ly L ad H1) (cA L H0) 0 0 := by
  obtain ⟨hP, hly, hLb, wf, eq0, eq1, eq2⟩ := id hX
  have wfx := wf
  refine ro_of (by decide) (Nat.le_of_ble_eq_true rfl) ?_
  intro p e s m below meth co ls hx hb hr hml hown hlocks hnm hC hU hl
  have hS : va_S (cA L H0) s.heap H0 [] := by rw [hU]; exact va_S.rf
  have hA : ∀ q, q ∈ L → cA L H0 q := fun q h => Or.inl h
  have hN : ∀ q, s.heap.size ≤ q → cA L H0 q := fun q h => Or.inr (by rw [← hU]; exact h)
  have hAb : ∀ q, cA L H0 q → bA E q := fun q h => h.elim (hLb q) (fun z => Nat.le_trans hC.2.2.2.1 (by rw [hU]; exact z))
  have hl : lv_has ls 3 [(0, .ref (ad 0 0)), (1, .int (nI i)), (2, .int w)] := hl
  refine lv_aload_n hx hb dX7_ofWall_0 rfl (lv_at hl 0 rfl) ?_
  refine lv_aload_n hx hb dX7_ofWall_1 rfl (lv_at hl 0 rfl) ?_
  refine lv_iload_n hx hb dX7_ofWall_2 rfl (lv_at hl 1 rfl) ?_
  refine ro_V (As := [.int (nI i)]) (h0 := ad 0 0) (rest := [.ref (ad 0 0)]) (v := bI (!isInS (nI i) (nI 0) (nI (c.R 10 0) - nI 1))) hx hb hml hown hC hS hAb (mX7_isNoWall l hX (nI i) ) kV_X7_56 ⟨rfl, rfl⟩ ⟨Nat.le_of_ble_eq_true rfl, Nat.le_of_ble_eq_true rfl⟩ (hP.recv hC cM_0 rfl) rfl hl (Nat.le_of_ble_eq_true rfl) ⟨show _ ≤ (0 : Nat) by omega, show _ ≤ (0 : Nat) by omega⟩ dX7_ofWall_3 ?_
  refine lv_iconstN hx hb 1 dX7_ofWall_6 (by decide) ?_
  rw [(by rw [isIn_t hi (by have := wf.sw; have := wf.sh'; have := wf.sl; have := wf.nw; have := wf.nh; have := wf.nl; omega)]; rfl : (!isInS (nI i) (nI 0) (nI (c.R 10 0) - nI 1)) = false)]
  refine mu_V (As := [.int (bI false), .int (nI 1)]) (h0 := ad 0 0) (rest := []) (v := bI false) hx hb hml hown hC hS hAb (mX7_start_f l hX 1 ) (fun q h => h.elim (hA q) (fun z => hN q (Nat.le_trans hS.1 z))) kV_X7_41 ⟨rfl, rfl⟩ ⟨Nat.le_of_ble_eq_true rfl, Nat.le_of_ble_eq_true rfl⟩ (hP.recv hC cM_0 rfl) rfl hl (Nat.le_of_ble_eq_true rfl) ⟨show 0 + 0 ≤ (0 : Nat) by omega, show 0 + 0 ≤ (0 : Nat) by omega⟩ dX7_ofWall_7 (fun H locs hB hS9 hz hk => ?_)
  have hS := hS9
  have hX : PM E c (nI 0) ly L ad H := hB
  obtain ⟨hP, hly, hLb, wfx, ex0, ex1, ex2⟩ := id hX
  refine lv_bif_ne (tgt := 36) hx hb dX7_ofWall_10 (by decide) (fun c_10 => ?_) (fun c_10 => ?_)
  · skip
    exact absurd (c_10.symm.trans rfl) (by decide)
  · skip
    refine lv_aload_n hx hb dX7_ofWall_13 rfl (lv_at hl 0 rfl) ?_
    refine lv_iload_n hx hb dX7_ofWall_14 rfl (lv_at hl 2 rfl) ?_
    refine lv_iconstN hx hb 0 dX7_ofWall_15 (by decide) ?_
    refine lv_bipushN hx hb 6 dX7_ofWall_16 (by decide) ?_
    refine ro_S (As := [.int w, .int (nI 0), .int (nI 6)]) (rest := [.ref (ad 0 0)]) (v := bI (isInS w (nI 0) (nI 6))) hx hb hml hown hC hS hAb (mX7_isIn l w (nI 0) (nI 6) ) kS_X7_37 ⟨rfl, rfl⟩ ⟨Nat.le_of_ble_eq_true rfl, Nat.le_of_ble_eq_true rfl⟩ rfl hl (Nat.le_of_ble_eq_true rfl) ⟨show _ ≤ (0 : Nat) by omega, show _ ≤ (0 : Nat) by omega⟩ dX7_ofWall_18 ?_
    refine lv_bif_ne (tgt := 28) hx hb dX7_ofWall_21 (by decide) (fun c_21 => ?_) (fun c_21 => ?_)
    · skip
      exact absurd (c_21.symm.trans hw) (by decide)
    · skip
      refine lv_iconstN hx hb 1 dX7_ofWall_24 (by decide) ?_
      refine lv_goto (tgt := 29) hx hb dX7_ofWall_25 (by decide) ?_
      refine lv_iconstN hx hb 2 dX7_ofWall_29 (by decide) ?_
      refine mu_V (As := [.int (nI 1), .int (nI 2)]) (h0 := ad 0 0) (rest := []) (v := bI true) hx hb hml hown hC hS hAb (mX7_refuse_t l hX 2 (show 1 ≤ 2 by first | assumption | omega | decide | (simp only [decide_eq_false_iff_not, decide_eq_true_eq] at *; omega)) (show 2 < 10 by first | assumption | omega | decide | (simp only [decide_eq_false_iff_not, decide_eq_true_eq] at *; omega))) (fun q h => h.elim (hA q) (fun z => hN q (Nat.le_trans hS.1 z))) kV_X7_29 ⟨rfl, rfl⟩ ⟨Nat.le_of_ble_eq_true rfl, Nat.le_of_ble_eq_true rfl⟩ (hP.recv hC cM_0 rfl) rfl hl (Nat.le_of_ble_eq_true rfl) ⟨show 0 + 0 ≤ (0 : Nat) by omega, show 0 + 0 ≤ (0 : Nat) by omega⟩ dX7_ofWall_30 (fun H locs hB hS9 hz hk => ?_)
      have hS := hS9
      have hX : PM E c (nI 2) ly L ad H := hB
      obtain ⟨hP, hly, hLb, wfx, ex0, ex1, ex2⟩ := id hX
      refine lv_bif_eq (tgt := 40) hx hb dX7_ofWall_33 (by decide) (fun c_33 => ?_) (fun c_33 => ?_)
      · skip
        exact absurd (c_33.symm.trans rfl) (by decide)
      · skip
        refine lv_iconstN hx hb 0 dX7_ofWall_36 (by decide) ?_
        refine lv_goto (tgt := 46) hx hb dX7_ofWall_37 (by decide) ?_
        exact mu_iret (x := nI 0) hx hb hr hlocks hS (hX) (by first | rfl | (simp [c_10, c_21, c_33]; done) | (simp [c_10, c_21, c_33]; omega) | (simp_all [c_10, c_21, c_33]; done)) dX7_ofWall_46
set_option maxHeartbeats 4000000 in
set_option maxRecDepth 100000 in
theorem mX7_ofHand_g (l : Launch) {E : En} {c : Cy} {th : Int32} {ly : Ly} {L : List Nat} {ad : Nat → Nat → Nat} {H0 : Heap} (hX : PM E c th ly L ad H0) (h w : Nat) (hh : h < c.R 10 1) (hw : w ≤ 10) : MuI l yX7_ofHand cX7_ofHand 3 .int (rmk 6 1 4 132) [.ref (ad 0 0), .int (nI h), .int (nI w)] E H0 (ohS c h (nI w)) (fun H1 => PM E c (nI 0) ly L ad H1) (cA L H0) 1 4 := by
  obtain ⟨hP, hly, hLb, wf, eq0, eq1, eq2⟩ := id hX
  have wfx := wf
  refine ro_of (by decide) (Nat.le_of_ble_eq_true rfl) ?_
  intro p e s m below meth co ls hx hb hr hml hown hlocks hnm hC hU hl
  have hS : va_S (cA L H0) s.heap H0 [] := by rw [hU]; exact va_S.rf
  have hA : ∀ q, q ∈ L → cA L H0 q := fun q h => Or.inl h
  have hN : ∀ q, s.heap.size ≤ q → cA L H0 q := fun q h => Or.inr (by rw [← hU]; exact h)
  have hAb : ∀ q, cA L H0 q → bA E q := fun q h => h.elim (hLb q) (fun z => Nat.le_trans hC.2.2.2.1 (by rw [hU]; exact z))
  have hl : lv_has ls 3 [(0, .ref (ad 0 0)), (1, .int (nI h)), (2, .int (nI w))] := hl
  refine lv_aload_n hx hb dX7_ofHand_0 rfl (lv_at hl 0 rfl) ?_
  refine lv_aload_n hx hb dX7_ofHand_1 rfl (lv_at hl 0 rfl) ?_
  refine lv_iload_n hx hb dX7_ofHand_2 rfl (lv_at hl 1 rfl) ?_
  refine ro_V (As := [.int (nI h)]) (h0 := ad 0 0) (rest := [.ref (ad 0 0)]) (v := bI (!isInS (nI h) (nI 0) (nI (c.R 10 1) - nI 1))) hx hb hml hown hC hS hAb (mX7_isNoHand l hX (nI h) ) kV_X7_113 ⟨rfl, rfl⟩ ⟨Nat.le_of_ble_eq_true rfl, Nat.le_of_ble_eq_true rfl⟩ (hP.recv hC cM_0 rfl) rfl hl (Nat.le_of_ble_eq_true rfl) ⟨show _ ≤ (1 : Nat) by omega, show _ ≤ (4 : Nat) by omega⟩ dX7_ofHand_3 ?_
  refine lv_iconstN hx hb 1 dX7_ofHand_6 (by decide) ?_
  rw [(by rw [isIn_t hh (by have := wf.sw; have := wf.sh'; have := wf.sl; have := wf.nw; have := wf.nh; have := wf.nl; omega)]; rfl : (!isInS (nI h) (nI 0) (nI (c.R 10 1) - nI 1)) = false)]
  refine mu_V (As := [.int (bI false), .int (nI 1)]) (h0 := ad 0 0) (rest := []) (v := bI false) hx hb hml hown hC hS hAb (mX7_start_f l hX 1 ) (fun q h => h.elim (hA q) (fun z => hN q (Nat.le_trans hS.1 z))) kV_X7_41 ⟨rfl, rfl⟩ ⟨Nat.le_of_ble_eq_true rfl, Nat.le_of_ble_eq_true rfl⟩ (hP.recv hC cM_0 rfl) rfl hl (Nat.le_of_ble_eq_true rfl) ⟨show 0 + 0 ≤ (1 : Nat) by omega, show 0 + 0 ≤ (4 : Nat) by omega⟩ dX7_ofHand_7 (fun H locs hB hS9 hz hk => ?_)
  have hS := hS9
  have hX : PM E c (nI 0) ly L ad H := hB
  obtain ⟨hP, hly, hLb, wfx, ex0, ex1, ex2⟩ := id hX
  refine lv_bif_ne (tgt := 36) hx hb dX7_ofHand_10 (by decide) (fun c_10 => ?_) (fun c_10 => ?_)
  · skip
    exact absurd (c_10.symm.trans rfl) (by decide)
  · skip
    refine lv_aload_n hx hb dX7_ofHand_13 rfl (lv_at hl 0 rfl) ?_
    refine lv_iload_n hx hb dX7_ofHand_14 rfl (lv_at hl 2 rfl) ?_
    refine lv_iconstN hx hb 0 dX7_ofHand_15 (by decide) ?_
    refine lv_bipushN hx hb 10 dX7_ofHand_16 (by decide) ?_
    refine ro_S (As := [.int (nI w), .int (nI 0), .int (nI 10)]) (rest := [.ref (ad 0 0)]) (v := bI (isInS (nI w) (nI 0) (nI 10))) hx hb hml hown hC hS hAb (mX7_isIn l (nI w) (nI 0) (nI 10) ) kS_X7_37 ⟨rfl, rfl⟩ ⟨Nat.le_of_ble_eq_true rfl, Nat.le_of_ble_eq_true rfl⟩ rfl hl (Nat.le_of_ble_eq_true rfl) ⟨show _ ≤ (1 : Nat) by omega, show _ ≤ (4 : Nat) by omega⟩ dX7_ofHand_18 ?_
    refine lv_bif_ne (tgt := 28) hx hb dX7_ofHand_21 (by decide) (fun c_21 => ?_) (fun c_21 => ?_)
    · skip
      refine lv_iconstN hx hb 0 dX7_ofHand_28 (by decide) ?_
      refine lv_iconstN hx hb 2 dX7_ofHand_29 (by decide) ?_
      refine mu_V (As := [.int (nI 0), .int (nI 2)]) (h0 := ad 0 0) (rest := []) (v := bI false) hx hb hml hown hC hS hAb (mX7_refuse_f l hX 2 ) (fun q h => h.elim (hA q) (fun z => hN q (Nat.le_trans hS.1 z))) kV_X7_29 ⟨rfl, rfl⟩ ⟨Nat.le_of_ble_eq_true rfl, Nat.le_of_ble_eq_true rfl⟩ (hP.recv hC cM_0 rfl) rfl hl (Nat.le_of_ble_eq_true rfl) ⟨show 0 + 0 ≤ (1 : Nat) by omega, show 0 + 0 ≤ (4 : Nat) by omega⟩ dX7_ofHand_30 (fun H locs hB hS9 hz hk => ?_)
      have hS := hS9
      have hX : PM E c (nI 0) ly L ad H := hB
      obtain ⟨hP, hly, hLb, wfx, ex0, ex1, ex2⟩ := id hX
      refine lv_bif_eq (tgt := 40) hx hb dX7_ofHand_33 (by decide) (fun c_33 => ?_) (fun c_33 => ?_)
      · skip
        refine lv_aload_n hx hb dX7_ofHand_40 rfl (lv_at hl 0 rfl) ?_
        refine lv_iload_n hx hb dX7_ofHand_41 rfl (lv_at hl 1 rfl) ?_
        refine lv_iload_n hx hb dX7_ofHand_42 rfl (lv_at hl 2 rfl) ?_
        refine mu_V (As := [.int (nI h), .int (nI w)]) (h0 := ad 0 0) (rest := []) (v := ohS c h (nI w)) hx hb hml hown hC hS hAb (mX7_ofHandNow l hX h w (show h < c.R 10 1 by first | assumption | omega | decide | (simp only [decide_eq_false_iff_not, decide_eq_true_eq] at *; omega)) (show w ≤ 10 by first | assumption | omega | decide | (simp only [decide_eq_false_iff_not, decide_eq_true_eq] at *; omega))) (fun q h => h.elim (hA q) (fun z => hN q (Nat.le_trans hS.1 z))) kV_X7_230 ⟨rfl, rfl⟩ ⟨Nat.le_of_ble_eq_true rfl, Nat.le_of_ble_eq_true rfl⟩ (hP.recv hC cM_0 rfl) rfl hl (Nat.le_of_ble_eq_true rfl) ⟨show 0 + 1 ≤ (1 : Nat) by omega, show 0 + 4 ≤ (4 : Nat) by omega⟩ dX7_ofHand_43 (fun H locs hB hS9 hz hk => ?_)
        have hS := hS9
        have hX : PM E c (nI 0) ly L ad H := hB
        obtain ⟨hP, hly, hLb, wfx, ex0, ex1, ex2⟩ := id hX
        exact mu_iret (x := ohS c h (nI w)) hx hb hr hlocks hS (hX) (by first | rfl | (simp [c_10, c_21, c_33]; done) | (simp [c_10, c_21, c_33]; omega) | (simp_all [c_10, c_21, c_33]; done)) dX7_ofHand_46
      · skip
        exact absurd (c_33.symm.trans rfl) (by decide)
    · skip
      exact absurd (c_21.symm.trans (isIn_le hw (by decide))) (by decide)
set_option maxHeartbeats 4000000 in
set_option maxRecDepth 100000 in
theorem mX7_ofHand_b1 (l : Launch) {E : En} {c : Cy} {th : Int32} {ly : Ly} {L : List Nat} {ad : Nat → Nat → Nat} {H0 : Heap} (hX : PM E c th ly L ad H0) (v w : Int32) (hv : isInS v (nI 0) (nI (c.R 10 1) - nI 1) = false) : MuI l yX7_ofHand cX7_ofHand 3 .int (rmk 2 0 0 44) [.ref (ad 0 0), .int v, .int w] E H0 (nI 0) (fun H1 => PM E c (nI 1) ly L ad H1) (cA L H0) 0 0 := by
  obtain ⟨hP, hly, hLb, wf, eq0, eq1, eq2⟩ := id hX
  have wfx := wf
  refine ro_of (by decide) (Nat.le_of_ble_eq_true rfl) ?_
  intro p e s m below meth co ls hx hb hr hml hown hlocks hnm hC hU hl
  have hS : va_S (cA L H0) s.heap H0 [] := by rw [hU]; exact va_S.rf
  have hA : ∀ q, q ∈ L → cA L H0 q := fun q h => Or.inl h
  have hN : ∀ q, s.heap.size ≤ q → cA L H0 q := fun q h => Or.inr (by rw [← hU]; exact h)
  have hAb : ∀ q, cA L H0 q → bA E q := fun q h => h.elim (hLb q) (fun z => Nat.le_trans hC.2.2.2.1 (by rw [hU]; exact z))
  have hl : lv_has ls 3 [(0, .ref (ad 0 0)), (1, .int v), (2, .int w)] := hl
  refine lv_aload_n hx hb dX7_ofHand_0 rfl (lv_at hl 0 rfl) ?_
  refine lv_aload_n hx hb dX7_ofHand_1 rfl (lv_at hl 0 rfl) ?_
  refine lv_iload_n hx hb dX7_ofHand_2 rfl (lv_at hl 1 rfl) ?_
  refine ro_V (As := [.int v]) (h0 := ad 0 0) (rest := [.ref (ad 0 0)]) (v := bI (!isInS v (nI 0) (nI (c.R 10 1) - nI 1))) hx hb hml hown hC hS hAb (mX7_isNoHand l hX v ) kV_X7_113 ⟨rfl, rfl⟩ ⟨Nat.le_of_ble_eq_true rfl, Nat.le_of_ble_eq_true rfl⟩ (hP.recv hC cM_0 rfl) rfl hl (Nat.le_of_ble_eq_true rfl) ⟨show _ ≤ (0 : Nat) by omega, show _ ≤ (0 : Nat) by omega⟩ dX7_ofHand_3 ?_
  refine lv_iconstN hx hb 1 dX7_ofHand_6 (by decide) ?_
  rw [(by rw [hv]; rfl : (!isInS v (nI 0) (nI (c.R 10 1) - nI 1)) = true)]
  refine mu_V (As := [.int (bI true), .int (nI 1)]) (h0 := ad 0 0) (rest := []) (v := bI true) hx hb hml hown hC hS hAb (mX7_start_t l hX 1 (show 1 ≤ 1 by first | assumption | omega | decide | (simp only [decide_eq_false_iff_not, decide_eq_true_eq] at *; omega)) (show 1 < 10 by first | assumption | omega | decide | (simp only [decide_eq_false_iff_not, decide_eq_true_eq] at *; omega))) (fun q h => h.elim (hA q) (fun z => hN q (Nat.le_trans hS.1 z))) kV_X7_41 ⟨rfl, rfl⟩ ⟨Nat.le_of_ble_eq_true rfl, Nat.le_of_ble_eq_true rfl⟩ (hP.recv hC cM_0 rfl) rfl hl (Nat.le_of_ble_eq_true rfl) ⟨show 0 + 0 ≤ (0 : Nat) by omega, show 0 + 0 ≤ (0 : Nat) by omega⟩ dX7_ofHand_7 (fun H locs hB hS9 hz hk => ?_)
  have hS := hS9
  have hX : PM E c (nI 1) ly L ad H := hB
  obtain ⟨hP, hly, hLb, wfx, ex0, ex1, ex2⟩ := id hX
  refine lv_bif_ne (tgt := 36) hx hb dX7_ofHand_10 (by decide) (fun c_10 => ?_) (fun c_10 => ?_)
  · skip
    refine lv_iconstN hx hb 0 dX7_ofHand_36 (by decide) ?_
    refine lv_goto (tgt := 46) hx hb dX7_ofHand_37 (by decide) ?_
    exact mu_iret (x := nI 0) hx hb hr hlocks hS (hX) (by first | rfl | (simp [c_10]; done) | (simp [c_10]; omega) | (simp_all [c_10]; done)) dX7_ofHand_46
  · skip
    exact absurd (c_10.symm.trans rfl) (by decide)
set_option maxHeartbeats 4000000 in
set_option maxRecDepth 100000 in
theorem mX7_ofHand_b2 (l : Launch) {E : En} {c : Cy} {th : Int32} {ly : Ly} {L : List Nat} {ad : Nat → Nat → Nat} {H0 : Heap} (hX : PM E c th ly L ad H0) (h : Nat) (w : Int32) (hh : h < c.R 10 1) (hw : isInS w (nI 0) (nI 10) = false) : MuI l yX7_ofHand cX7_ofHand 3 .int (rmk 2 0 0 44) [.ref (ad 0 0), .int (nI h), .int w] E H0 (nI 0) (fun H1 => PM E c (nI 2) ly L ad H1) (cA L H0) 0 0 := by
  obtain ⟨hP, hly, hLb, wf, eq0, eq1, eq2⟩ := id hX
  have wfx := wf
  refine ro_of (by decide) (Nat.le_of_ble_eq_true rfl) ?_
  intro p e s m below meth co ls hx hb hr hml hown hlocks hnm hC hU hl
  have hS : va_S (cA L H0) s.heap H0 [] := by rw [hU]; exact va_S.rf
  have hA : ∀ q, q ∈ L → cA L H0 q := fun q h => Or.inl h
  have hN : ∀ q, s.heap.size ≤ q → cA L H0 q := fun q h => Or.inr (by rw [← hU]; exact h)
  have hAb : ∀ q, cA L H0 q → bA E q := fun q h => h.elim (hLb q) (fun z => Nat.le_trans hC.2.2.2.1 (by rw [hU]; exact z))
  have hl : lv_has ls 3 [(0, .ref (ad 0 0)), (1, .int (nI h)), (2, .int w)] := hl
  refine lv_aload_n hx hb dX7_ofHand_0 rfl (lv_at hl 0 rfl) ?_
  refine lv_aload_n hx hb dX7_ofHand_1 rfl (lv_at hl 0 rfl) ?_
  refine lv_iload_n hx hb dX7_ofHand_2 rfl (lv_at hl 1 rfl) ?_
  refine ro_V (As := [.int (nI h)]) (h0 := ad 0 0) (rest := [.ref (ad 0 0)]) (v := bI (!isInS (nI h) (nI 0) (nI (c.R 10 1) - nI 1))) hx hb hml hown hC hS hAb (mX7_isNoHand l hX (nI h) ) kV_X7_113 ⟨rfl, rfl⟩ ⟨Nat.le_of_ble_eq_true rfl, Nat.le_of_ble_eq_true rfl⟩ (hP.recv hC cM_0 rfl) rfl hl (Nat.le_of_ble_eq_true rfl) ⟨show _ ≤ (0 : Nat) by omega, show _ ≤ (0 : Nat) by omega⟩ dX7_ofHand_3 ?_
  refine lv_iconstN hx hb 1 dX7_ofHand_6 (by decide) ?_
  rw [(by rw [isIn_t hh (by have := wf.sw; have := wf.sh'; have := wf.sl; have := wf.nw; have := wf.nh; have := wf.nl; omega)]; rfl : (!isInS (nI h) (nI 0) (nI (c.R 10 1) - nI 1)) = false)]
  refine mu_V (As := [.int (bI false), .int (nI 1)]) (h0 := ad 0 0) (rest := []) (v := bI false) hx hb hml hown hC hS hAb (mX7_start_f l hX 1 ) (fun q h => h.elim (hA q) (fun z => hN q (Nat.le_trans hS.1 z))) kV_X7_41 ⟨rfl, rfl⟩ ⟨Nat.le_of_ble_eq_true rfl, Nat.le_of_ble_eq_true rfl⟩ (hP.recv hC cM_0 rfl) rfl hl (Nat.le_of_ble_eq_true rfl) ⟨show 0 + 0 ≤ (0 : Nat) by omega, show 0 + 0 ≤ (0 : Nat) by omega⟩ dX7_ofHand_7 (fun H locs hB hS9 hz hk => ?_)
  have hS := hS9
  have hX : PM E c (nI 0) ly L ad H := hB
  obtain ⟨hP, hly, hLb, wfx, ex0, ex1, ex2⟩ := id hX
  refine lv_bif_ne (tgt := 36) hx hb dX7_ofHand_10 (by decide) (fun c_10 => ?_) (fun c_10 => ?_)
  · skip
    exact absurd (c_10.symm.trans rfl) (by decide)
  · skip
    refine lv_aload_n hx hb dX7_ofHand_13 rfl (lv_at hl 0 rfl) ?_
    refine lv_iload_n hx hb dX7_ofHand_14 rfl (lv_at hl 2 rfl) ?_
    refine lv_iconstN hx hb 0 dX7_ofHand_15 (by decide) ?_
    refine lv_bipushN hx hb 10 dX7_ofHand_16 (by decide) ?_
    refine ro_S (As := [.int w, .int (nI 0), .int (nI 10)]) (rest := [.ref (ad 0 0)]) (v := bI (isInS w (nI 0) (nI 10))) hx hb hml hown hC hS hAb (mX7_isIn l w (nI 0) (nI 10) ) kS_X7_37 ⟨rfl, rfl⟩ ⟨Nat.le_of_ble_eq_true rfl, Nat.le_of_ble_eq_true rfl⟩ rfl hl (Nat.le_of_ble_eq_true rfl) ⟨show _ ≤ (0 : Nat) by omega, show _ ≤ (0 : Nat) by omega⟩ dX7_ofHand_18 ?_
    refine lv_bif_ne (tgt := 28) hx hb dX7_ofHand_21 (by decide) (fun c_21 => ?_) (fun c_21 => ?_)
    · skip
      exact absurd (c_21.symm.trans hw) (by decide)
    · skip
      refine lv_iconstN hx hb 1 dX7_ofHand_24 (by decide) ?_
      refine lv_goto (tgt := 29) hx hb dX7_ofHand_25 (by decide) ?_
      refine lv_iconstN hx hb 2 dX7_ofHand_29 (by decide) ?_
      refine mu_V (As := [.int (nI 1), .int (nI 2)]) (h0 := ad 0 0) (rest := []) (v := bI true) hx hb hml hown hC hS hAb (mX7_refuse_t l hX 2 (show 1 ≤ 2 by first | assumption | omega | decide | (simp only [decide_eq_false_iff_not, decide_eq_true_eq] at *; omega)) (show 2 < 10 by first | assumption | omega | decide | (simp only [decide_eq_false_iff_not, decide_eq_true_eq] at *; omega))) (fun q h => h.elim (hA q) (fun z => hN q (Nat.le_trans hS.1 z))) kV_X7_29 ⟨rfl, rfl⟩ ⟨Nat.le_of_ble_eq_true rfl, Nat.le_of_ble_eq_true rfl⟩ (hP.recv hC cM_0 rfl) rfl hl (Nat.le_of_ble_eq_true rfl) ⟨show 0 + 0 ≤ (0 : Nat) by omega, show 0 + 0 ≤ (0 : Nat) by omega⟩ dX7_ofHand_30 (fun H locs hB hS9 hz hk => ?_)
      have hS := hS9
      have hX : PM E c (nI 2) ly L ad H := hB
      obtain ⟨hP, hly, hLb, wfx, ex0, ex1, ex2⟩ := id hX
      refine lv_bif_eq (tgt := 40) hx hb dX7_ofHand_33 (by decide) (fun c_33 => ?_) (fun c_33 => ?_)
      · skip
        exact absurd (c_33.symm.trans rfl) (by decide)
      · skip
        refine lv_iconstN hx hb 0 dX7_ofHand_36 (by decide) ?_
        refine lv_goto (tgt := 46) hx hb dX7_ofHand_37 (by decide) ?_
        exact mu_iret (x := nI 0) hx hb hr hlocks hS (hX) (by first | rfl | (simp [c_10, c_21, c_33]; done) | (simp [c_10, c_21, c_33]; omega) | (simp_all [c_10, c_21, c_33]; done)) dX7_ofHand_46
set_option maxHeartbeats 4000000 in
set_option maxRecDepth 100000 in
theorem mX7_ofLayer_g (l : Launch) {E : En} {c : Cy} {th : Int32} {ly : Ly} {L : List Nat} {ad : Nat → Nat → Nat} {H0 : Heap} (hX : PM E c th ly L ad H0) (j w : Nat) (hj : j < c.R 10 2) (hw : w ≤ 13) : MuI l yX7_ofLayer cX7_ofLayer 3 .int (rmk 6 1 4 136) [.ref (ad 0 0), .int (nI j), .int (nI w)] E H0 (olS c j (nI w)) (fun H1 => PM E c (nI 0) ly L ad H1) (cA L H0) 1 4 := by
  obtain ⟨hP, hly, hLb, wf, eq0, eq1, eq2⟩ := id hX
  have wfx := wf
  refine ro_of (by decide) (Nat.le_of_ble_eq_true rfl) ?_
  intro p e s m below meth co ls hx hb hr hml hown hlocks hnm hC hU hl
  have hS : va_S (cA L H0) s.heap H0 [] := by rw [hU]; exact va_S.rf
  have hA : ∀ q, q ∈ L → cA L H0 q := fun q h => Or.inl h
  have hN : ∀ q, s.heap.size ≤ q → cA L H0 q := fun q h => Or.inr (by rw [← hU]; exact h)
  have hAb : ∀ q, cA L H0 q → bA E q := fun q h => h.elim (hLb q) (fun z => Nat.le_trans hC.2.2.2.1 (by rw [hU]; exact z))
  have hl : lv_has ls 3 [(0, .ref (ad 0 0)), (1, .int (nI j)), (2, .int (nI w))] := hl
  refine lv_aload_n hx hb dX7_ofLayer_0 rfl (lv_at hl 0 rfl) ?_
  refine lv_aload_n hx hb dX7_ofLayer_1 rfl (lv_at hl 0 rfl) ?_
  refine lv_iload_n hx hb dX7_ofLayer_2 rfl (lv_at hl 1 rfl) ?_
  refine ro_V (As := [.int (nI j)]) (h0 := ad 0 0) (rest := [.ref (ad 0 0)]) (v := bI (!isInS (nI j) (nI 0) (nI (c.R 10 2) - nI 1))) hx hb hml hown hC hS hAb (mX7_isNoLayer l hX (nI j) ) kV_X7_203 ⟨rfl, rfl⟩ ⟨Nat.le_of_ble_eq_true rfl, Nat.le_of_ble_eq_true rfl⟩ (hP.recv hC cM_0 rfl) rfl hl (Nat.le_of_ble_eq_true rfl) ⟨show _ ≤ (1 : Nat) by omega, show _ ≤ (4 : Nat) by omega⟩ dX7_ofLayer_3 ?_
  refine lv_iconstN hx hb 1 dX7_ofLayer_6 (by decide) ?_
  rw [(by rw [isIn_t hj (by have := wf.sw; have := wf.sh'; have := wf.sl; have := wf.nw; have := wf.nh; have := wf.nl; omega)]; rfl : (!isInS (nI j) (nI 0) (nI (c.R 10 2) - nI 1)) = false)]
  refine mu_V (As := [.int (bI false), .int (nI 1)]) (h0 := ad 0 0) (rest := []) (v := bI false) hx hb hml hown hC hS hAb (mX7_start_f l hX 1 ) (fun q h => h.elim (hA q) (fun z => hN q (Nat.le_trans hS.1 z))) kV_X7_41 ⟨rfl, rfl⟩ ⟨Nat.le_of_ble_eq_true rfl, Nat.le_of_ble_eq_true rfl⟩ (hP.recv hC cM_0 rfl) rfl hl (Nat.le_of_ble_eq_true rfl) ⟨show 0 + 0 ≤ (1 : Nat) by omega, show 0 + 0 ≤ (4 : Nat) by omega⟩ dX7_ofLayer_7 (fun H locs hB hS9 hz hk => ?_)
  have hS := hS9
  have hX : PM E c (nI 0) ly L ad H := hB
  obtain ⟨hP, hly, hLb, wfx, ex0, ex1, ex2⟩ := id hX
  refine lv_bif_ne (tgt := 36) hx hb dX7_ofLayer_10 (by decide) (fun c_10 => ?_) (fun c_10 => ?_)
  · skip
    exact absurd (c_10.symm.trans rfl) (by decide)
  · skip
    refine lv_aload_n hx hb dX7_ofLayer_13 rfl (lv_at hl 0 rfl) ?_
    refine lv_iload_n hx hb dX7_ofLayer_14 rfl (lv_at hl 2 rfl) ?_
    refine lv_iconstN hx hb 0 dX7_ofLayer_15 (by decide) ?_
    refine lv_bipushN hx hb 13 dX7_ofLayer_16 (by decide) ?_
    refine ro_S (As := [.int (nI w), .int (nI 0), .int (nI 13)]) (rest := [.ref (ad 0 0)]) (v := bI (isInS (nI w) (nI 0) (nI 13))) hx hb hml hown hC hS hAb (mX7_isIn l (nI w) (nI 0) (nI 13) ) kS_X7_37 ⟨rfl, rfl⟩ ⟨Nat.le_of_ble_eq_true rfl, Nat.le_of_ble_eq_true rfl⟩ rfl hl (Nat.le_of_ble_eq_true rfl) ⟨show _ ≤ (1 : Nat) by omega, show _ ≤ (4 : Nat) by omega⟩ dX7_ofLayer_18 ?_
    refine lv_bif_ne (tgt := 28) hx hb dX7_ofLayer_21 (by decide) (fun c_21 => ?_) (fun c_21 => ?_)
    · skip
      refine lv_iconstN hx hb 0 dX7_ofLayer_28 (by decide) ?_
      refine lv_iconstN hx hb 2 dX7_ofLayer_29 (by decide) ?_
      refine mu_V (As := [.int (nI 0), .int (nI 2)]) (h0 := ad 0 0) (rest := []) (v := bI false) hx hb hml hown hC hS hAb (mX7_refuse_f l hX 2 ) (fun q h => h.elim (hA q) (fun z => hN q (Nat.le_trans hS.1 z))) kV_X7_29 ⟨rfl, rfl⟩ ⟨Nat.le_of_ble_eq_true rfl, Nat.le_of_ble_eq_true rfl⟩ (hP.recv hC cM_0 rfl) rfl hl (Nat.le_of_ble_eq_true rfl) ⟨show 0 + 0 ≤ (1 : Nat) by omega, show 0 + 0 ≤ (4 : Nat) by omega⟩ dX7_ofLayer_30 (fun H locs hB hS9 hz hk => ?_)
      have hS := hS9
      have hX : PM E c (nI 0) ly L ad H := hB
      obtain ⟨hP, hly, hLb, wfx, ex0, ex1, ex2⟩ := id hX
      refine lv_bif_eq (tgt := 40) hx hb dX7_ofLayer_33 (by decide) (fun c_33 => ?_) (fun c_33 => ?_)
      · skip
        refine lv_aload_n hx hb dX7_ofLayer_40 rfl (lv_at hl 0 rfl) ?_
        refine lv_iload_n hx hb dX7_ofLayer_41 rfl (lv_at hl 1 rfl) ?_
        refine lv_iload_n hx hb dX7_ofLayer_42 rfl (lv_at hl 2 rfl) ?_
        refine mu_V (As := [.int (nI j), .int (nI w)]) (h0 := ad 0 0) (rest := []) (v := olS c j (nI w)) hx hb hml hown hC hS hAb (mX7_ofLayerNow l hX j w (show j < c.R 10 2 by first | assumption | omega | decide | (simp only [decide_eq_false_iff_not, decide_eq_true_eq] at *; omega)) (show w ≤ 13 by first | assumption | omega | decide | (simp only [decide_eq_false_iff_not, decide_eq_true_eq] at *; omega))) (fun q h => h.elim (hA q) (fun z => hN q (Nat.le_trans hS.1 z))) kV_X7_248 ⟨rfl, rfl⟩ ⟨Nat.le_of_ble_eq_true rfl, Nat.le_of_ble_eq_true rfl⟩ (hP.recv hC cM_0 rfl) rfl hl (Nat.le_of_ble_eq_true rfl) ⟨show 0 + 1 ≤ (1 : Nat) by omega, show 0 + 4 ≤ (4 : Nat) by omega⟩ dX7_ofLayer_43 (fun H locs hB hS9 hz hk => ?_)
        have hS := hS9
        have hX : PM E c (nI 0) ly L ad H := hB
        obtain ⟨hP, hly, hLb, wfx, ex0, ex1, ex2⟩ := id hX
        exact mu_iret (x := olS c j (nI w)) hx hb hr hlocks hS (hX) (by first | rfl | (simp [c_10, c_21, c_33]; done) | (simp [c_10, c_21, c_33]; omega) | (simp_all [c_10, c_21, c_33]; done)) dX7_ofLayer_46
      · skip
        exact absurd (c_33.symm.trans rfl) (by decide)
    · skip
      exact absurd (c_21.symm.trans (isIn_le hw (by decide))) (by decide)
set_option maxHeartbeats 4000000 in
set_option maxRecDepth 100000 in
theorem mX7_ofLayer_b1 (l : Launch) {E : En} {c : Cy} {th : Int32} {ly : Ly} {L : List Nat} {ad : Nat → Nat → Nat} {H0 : Heap} (hX : PM E c th ly L ad H0) (v w : Int32) (hv : isInS v (nI 0) (nI (c.R 10 2) - nI 1) = false) : MuI l yX7_ofLayer cX7_ofLayer 3 .int (rmk 2 0 0 44) [.ref (ad 0 0), .int v, .int w] E H0 (nI 0) (fun H1 => PM E c (nI 1) ly L ad H1) (cA L H0) 0 0 := by
  obtain ⟨hP, hly, hLb, wf, eq0, eq1, eq2⟩ := id hX
  have wfx := wf
  refine ro_of (by decide) (Nat.le_of_ble_eq_true rfl) ?_
  intro p e s m below meth co ls hx hb hr hml hown hlocks hnm hC hU hl
  have hS : va_S (cA L H0) s.heap H0 [] := by rw [hU]; exact va_S.rf
  have hA : ∀ q, q ∈ L → cA L H0 q := fun q h => Or.inl h
  have hN : ∀ q, s.heap.size ≤ q → cA L H0 q := fun q h => Or.inr (by rw [← hU]; exact h)
  have hAb : ∀ q, cA L H0 q → bA E q := fun q h => h.elim (hLb q) (fun z => Nat.le_trans hC.2.2.2.1 (by rw [hU]; exact z))
  have hl : lv_has ls 3 [(0, .ref (ad 0 0)), (1, .int v), (2, .int w)] := hl
  refine lv_aload_n hx hb dX7_ofLayer_0 rfl (lv_at hl 0 rfl) ?_
  refine lv_aload_n hx hb dX7_ofLayer_1 rfl (lv_at hl 0 rfl) ?_
  refine lv_iload_n hx hb dX7_ofLayer_2 rfl (lv_at hl 1 rfl) ?_
  refine ro_V (As := [.int v]) (h0 := ad 0 0) (rest := [.ref (ad 0 0)]) (v := bI (!isInS v (nI 0) (nI (c.R 10 2) - nI 1))) hx hb hml hown hC hS hAb (mX7_isNoLayer l hX v ) kV_X7_203 ⟨rfl, rfl⟩ ⟨Nat.le_of_ble_eq_true rfl, Nat.le_of_ble_eq_true rfl⟩ (hP.recv hC cM_0 rfl) rfl hl (Nat.le_of_ble_eq_true rfl) ⟨show _ ≤ (0 : Nat) by omega, show _ ≤ (0 : Nat) by omega⟩ dX7_ofLayer_3 ?_
  refine lv_iconstN hx hb 1 dX7_ofLayer_6 (by decide) ?_
  rw [(by rw [hv]; rfl : (!isInS v (nI 0) (nI (c.R 10 2) - nI 1)) = true)]
  refine mu_V (As := [.int (bI true), .int (nI 1)]) (h0 := ad 0 0) (rest := []) (v := bI true) hx hb hml hown hC hS hAb (mX7_start_t l hX 1 (show 1 ≤ 1 by first | assumption | omega | decide | (simp only [decide_eq_false_iff_not, decide_eq_true_eq] at *; omega)) (show 1 < 10 by first | assumption | omega | decide | (simp only [decide_eq_false_iff_not, decide_eq_true_eq] at *; omega))) (fun q h => h.elim (hA q) (fun z => hN q (Nat.le_trans hS.1 z))) kV_X7_41 ⟨rfl, rfl⟩ ⟨Nat.le_of_ble_eq_true rfl, Nat.le_of_ble_eq_true rfl⟩ (hP.recv hC cM_0 rfl) rfl hl (Nat.le_of_ble_eq_true rfl) ⟨show 0 + 0 ≤ (0 : Nat) by omega, show 0 + 0 ≤ (0 : Nat) by omega⟩ dX7_ofLayer_7 (fun H locs hB hS9 hz hk => ?_)
  have hS := hS9
  have hX : PM E c (nI 1) ly L ad H := hB
  obtain ⟨hP, hly, hLb, wfx, ex0, ex1, ex2⟩ := id hX
  refine lv_bif_ne (tgt := 36) hx hb dX7_ofLayer_10 (by decide) (fun c_10 => ?_) (fun c_10 => ?_)
  · skip
    refine lv_iconstN hx hb 0 dX7_ofLayer_36 (by decide) ?_
    refine lv_goto (tgt := 46) hx hb dX7_ofLayer_37 (by decide) ?_
    exact mu_iret (x := nI 0) hx hb hr hlocks hS (hX) (by first | rfl | (simp [c_10]; done) | (simp [c_10]; omega) | (simp_all [c_10]; done)) dX7_ofLayer_46
  · skip
    exact absurd (c_10.symm.trans rfl) (by decide)
set_option maxHeartbeats 4000000 in
set_option maxRecDepth 100000 in
theorem mX7_ofLayer_b2 (l : Launch) {E : En} {c : Cy} {th : Int32} {ly : Ly} {L : List Nat} {ad : Nat → Nat → Nat} {H0 : Heap} (hX : PM E c th ly L ad H0) (j : Nat) (w : Int32) (hj : j < c.R 10 2) (hw : isInS w (nI 0) (nI 13) = false) : MuI l yX7_ofLayer cX7_ofLayer 3 .int (rmk 2 0 0 44) [.ref (ad 0 0), .int (nI j), .int w] E H0 (nI 0) (fun H1 => PM E c (nI 2) ly L ad H1) (cA L H0) 0 0 := by
  obtain ⟨hP, hly, hLb, wf, eq0, eq1, eq2⟩ := id hX
  have wfx := wf
  refine ro_of (by decide) (Nat.le_of_ble_eq_true rfl) ?_
  intro p e s m below meth co ls hx hb hr hml hown hlocks hnm hC hU hl
  have hS : va_S (cA L H0) s.heap H0 [] := by rw [hU]; exact va_S.rf
  have hA : ∀ q, q ∈ L → cA L H0 q := fun q h => Or.inl h
  have hN : ∀ q, s.heap.size ≤ q → cA L H0 q := fun q h => Or.inr (by rw [← hU]; exact h)
  have hAb : ∀ q, cA L H0 q → bA E q := fun q h => h.elim (hLb q) (fun z => Nat.le_trans hC.2.2.2.1 (by rw [hU]; exact z))
  have hl : lv_has ls 3 [(0, .ref (ad 0 0)), (1, .int (nI j)), (2, .int w)] := hl
  refine lv_aload_n hx hb dX7_ofLayer_0 rfl (lv_at hl 0 rfl) ?_
  refine lv_aload_n hx hb dX7_ofLayer_1 rfl (lv_at hl 0 rfl) ?_
  refine lv_iload_n hx hb dX7_ofLayer_2 rfl (lv_at hl 1 rfl) ?_
  refine ro_V (As := [.int (nI j)]) (h0 := ad 0 0) (rest := [.ref (ad 0 0)]) (v := bI (!isInS (nI j) (nI 0) (nI (c.R 10 2) - nI 1))) hx hb hml hown hC hS hAb (mX7_isNoLayer l hX (nI j) ) kV_X7_203 ⟨rfl, rfl⟩ ⟨Nat.le_of_ble_eq_true rfl, Nat.le_of_ble_eq_true rfl⟩ (hP.recv hC cM_0 rfl) rfl hl (Nat.le_of_ble_eq_true rfl) ⟨show _ ≤ (0 : Nat) by omega, show _ ≤ (0 : Nat) by omega⟩ dX7_ofLayer_3 ?_
  refine lv_iconstN hx hb 1 dX7_ofLayer_6 (by decide) ?_
  rw [(by rw [isIn_t hj (by have := wf.sw; have := wf.sh'; have := wf.sl; have := wf.nw; have := wf.nh; have := wf.nl; omega)]; rfl : (!isInS (nI j) (nI 0) (nI (c.R 10 2) - nI 1)) = false)]
  refine mu_V (As := [.int (bI false), .int (nI 1)]) (h0 := ad 0 0) (rest := []) (v := bI false) hx hb hml hown hC hS hAb (mX7_start_f l hX 1 ) (fun q h => h.elim (hA q) (fun z => hN q (Nat.le_trans hS.1 z))) kV_X7_41 ⟨rfl, rfl⟩ ⟨Nat.le_of_ble_eq_true rfl, Nat.le_of_ble_eq_true rfl⟩ (hP.recv hC cM_0 rfl) rfl hl (Nat.le_of_ble_eq_true rfl) ⟨show 0 + 0 ≤ (0 : Nat) by omega, show 0 + 0 ≤ (0 : Nat) by omega⟩ dX7_ofLayer_7 (fun H locs hB hS9 hz hk => ?_)
  have hS := hS9
  have hX : PM E c (nI 0) ly L ad H := hB
  obtain ⟨hP, hly, hLb, wfx, ex0, ex1, ex2⟩ := id hX
  refine lv_bif_ne (tgt := 36) hx hb dX7_ofLayer_10 (by decide) (fun c_10 => ?_) (fun c_10 => ?_)
  · skip
    exact absurd (c_10.symm.trans rfl) (by decide)
  · skip
    refine lv_aload_n hx hb dX7_ofLayer_13 rfl (lv_at hl 0 rfl) ?_
    refine lv_iload_n hx hb dX7_ofLayer_14 rfl (lv_at hl 2 rfl) ?_
    refine lv_iconstN hx hb 0 dX7_ofLayer_15 (by decide) ?_
    refine lv_bipushN hx hb 13 dX7_ofLayer_16 (by decide) ?_
    refine ro_S (As := [.int w, .int (nI 0), .int (nI 13)]) (rest := [.ref (ad 0 0)]) (v := bI (isInS w (nI 0) (nI 13))) hx hb hml hown hC hS hAb (mX7_isIn l w (nI 0) (nI 13) ) kS_X7_37 ⟨rfl, rfl⟩ ⟨Nat.le_of_ble_eq_true rfl, Nat.le_of_ble_eq_true rfl⟩ rfl hl (Nat.le_of_ble_eq_true rfl) ⟨show _ ≤ (0 : Nat) by omega, show _ ≤ (0 : Nat) by omega⟩ dX7_ofLayer_18 ?_
    refine lv_bif_ne (tgt := 28) hx hb dX7_ofLayer_21 (by decide) (fun c_21 => ?_) (fun c_21 => ?_)
    · skip
      exact absurd (c_21.symm.trans hw) (by decide)
    · skip
      refine lv_iconstN hx hb 1 dX7_ofLayer_24 (by decide) ?_
      refine lv_goto (tgt := 29) hx hb dX7_ofLayer_25 (by decide) ?_
      refine lv_iconstN hx hb 2 dX7_ofLayer_29 (by decide) ?_
      refine mu_V (As := [.int (nI 1), .int (nI 2)]) (h0 := ad 0 0) (rest := []) (v := bI true) hx hb hml hown hC hS hAb (mX7_refuse_t l hX 2 (show 1 ≤ 2 by first | assumption | omega | decide | (simp only [decide_eq_false_iff_not, decide_eq_true_eq] at *; omega)) (show 2 < 10 by first | assumption | omega | decide | (simp only [decide_eq_false_iff_not, decide_eq_true_eq] at *; omega))) (fun q h => h.elim (hA q) (fun z => hN q (Nat.le_trans hS.1 z))) kV_X7_29 ⟨rfl, rfl⟩ ⟨Nat.le_of_ble_eq_true rfl, Nat.le_of_ble_eq_true rfl⟩ (hP.recv hC cM_0 rfl) rfl hl (Nat.le_of_ble_eq_true rfl) ⟨show 0 + 0 ≤ (0 : Nat) by omega, show 0 + 0 ≤ (0 : Nat) by omega⟩ dX7_ofLayer_30 (fun H locs hB hS9 hz hk => ?_)
      have hS := hS9
      have hX : PM E c (nI 2) ly L ad H := hB
      obtain ⟨hP, hly, hLb, wfx, ex0, ex1, ex2⟩ := id hX
      refine lv_bif_eq (tgt := 40) hx hb dX7_ofLayer_33 (by decide) (fun c_33 => ?_) (fun c_33 => ?_)
      · skip
        exact absurd (c_33.symm.trans rfl) (by decide)
      · skip
        refine lv_iconstN hx hb 0 dX7_ofLayer_36 (by decide) ?_
        refine lv_goto (tgt := 46) hx hb dX7_ofLayer_37 (by decide) ?_
        exact mu_iret (x := nI 0) hx hb hr hlocks hS (hX) (by first | rfl | (simp [c_10, c_21, c_33]; done) | (simp [c_10, c_21, c_33]; omega) | (simp_all [c_10, c_21, c_33]; done)) dX7_ofLayer_46
set_option maxHeartbeats 4000000 in
set_option maxRecDepth 100000 in
theorem mX7_shows_g (l : Launch) {E : En} {c : Cy} {th : Int32} {ly : Ly} {L : List Nat} {ad : Nat → Nat → Nat} {H0 : Heap} (hX : PM E c th ly L ad H0) (i k : Nat) (hi : i < c.R 10 0) (hk : k < c.R 1 i) : MuI l yX7_shows cX7_shows 3 .int (rmk 3 0 0 64) [.ref (ad 0 0), .int (nI i), .int (nI k)] E H0 (shI c i k) (fun H1 => PM E c (nI 0) ly L ad H1) (cA L H0) 0 0 := by
  obtain ⟨hP, hly, hLb, wf, eq0, eq1, eq2⟩ := id hX
  have wfx := wf
  refine ro_of (by decide) (Nat.le_of_ble_eq_true rfl) ?_
  intro p e s m below meth co ls hx hb hr hml hown hlocks hnm hC hU hl
  have hS : va_S (cA L H0) s.heap H0 [] := by rw [hU]; exact va_S.rf
  have hA : ∀ q, q ∈ L → cA L H0 q := fun q h => Or.inl h
  have hN : ∀ q, s.heap.size ≤ q → cA L H0 q := fun q h => Or.inr (by rw [← hU]; exact h)
  have hAb : ∀ q, cA L H0 q → bA E q := fun q h => h.elim (hLb q) (fun z => Nat.le_trans hC.2.2.2.1 (by rw [hU]; exact z))
  have hl : lv_has ls 3 [(0, .ref (ad 0 0)), (1, .int (nI i)), (2, .int (nI k))] := hl
  refine lv_aload_n hx hb dX7_shows_0 rfl (lv_at hl 0 rfl) ?_
  refine lv_aload_n hx hb dX7_shows_1 rfl (lv_at hl 0 rfl) ?_
  refine lv_iload_n hx hb dX7_shows_2 rfl (lv_at hl 1 rfl) ?_
  refine ro_V (As := [.int (nI i)]) (h0 := ad 0 0) (rest := [.ref (ad 0 0)]) (v := bI (!isInS (nI i) (nI 0) (nI (c.R 10 0) - nI 1))) hx hb hml hown hC hS hAb (mX7_isNoWall l hX (nI i) ) kV_X7_56 ⟨rfl, rfl⟩ ⟨Nat.le_of_ble_eq_true rfl, Nat.le_of_ble_eq_true rfl⟩ (hP.recv hC cM_0 rfl) rfl hl (Nat.le_of_ble_eq_true rfl) ⟨show _ ≤ (0 : Nat) by omega, show _ ≤ (0 : Nat) by omega⟩ dX7_shows_3 ?_
  refine lv_bif_ne (tgt := 34) hx hb dX7_shows_6 (by decide) (fun c_6 => ?_) (fun c_6 => ?_)
  · skip
    exact absurd (c_6.symm.trans (by rw [isIn_t hi (by have := wf.sw; have := wf.sh'; have := wf.sl; have := wf.nw; have := wf.nh; have := wf.nl; omega)]; rfl : (!isInS (nI i) (nI 0) (nI (c.R 10 0) - nI 1)) = false)) (by decide)
  · skip
    refine lv_iload_n hx hb dX7_shows_9 rfl (lv_at hl 2 rfl) ?_
    refine lv_iconstN hx hb 0 dX7_shows_10 (by decide) ?_
    refine lv_aload_n hx hb dX7_shows_11 rfl (lv_at hl 0 rfl) ?_
    refine pi_get hx hb hC hown hP fL_X7_16 0 0 cM_0 (v := .ref (ad 1 0)) rfl dX7_shows_12 ?_
    refine lv_iload_n hx hb dX7_shows_15 rfl (lv_at hl 1 rfl) ?_
    refine ro_VR (As := [.int (nI i)]) (h0 := ad 1 0) (rest := [.int (nI 0), .int (nI k), .ref (ad 0 0)]) (v := some (ad 3 i)) hx hb hml hown hC hS hAb (mJ_get l hP 0 (cM_1 (by decide)) (fun h9 => cM_2 (by decide) h9) (hly 0 (by decide)) i (by first | assumption | omega)) kV_X7_63 ⟨rfl, rfl⟩ ⟨Nat.le_of_ble_eq_true rfl, Nat.le_of_ble_eq_true rfl⟩ (hP.recv hC (cM_1 (i := 0) (by decide)) rfl) rfl hl (Nat.le_of_ble_eq_true rfl) ⟨show _ ≤ (0 : Nat) by omega, show _ ≤ (0 : Nat) by omega⟩ dX7_shows_16 ?_
    have hg_1 : i < c.R 11 0 := by have := wf.sw; omega
    refine pi_cast (nm := "") hx hb hC hown hP 3 i (cM_3 hg_1) rfl wCl_X7_44 dX7_shows_19 ?_
    refine pi_get hx hb hC hown hP fL_X7_97 3 i (cM_3 hg_1) (v := .ref (ad 4 i)) rfl dX7_shows_22 ?_
    have g_2 : 4 ≤ c.R 1 i ∧ c.R 1 i ≤ 16 := wfx.wd hg_1
    refine pi_alen hx hb hC hP 4 i 0 rfl (cM_4 hg_1) dX7_shows_25 ?_
    have g_3 : 4 ≤ c.R 1 i ∧ c.R 1 i ≤ 16 := wfx.wd hg_1
    refine lv_iconstN hx hb 1 dX7_shows_26 (by decide) ?_
    refine lv_isub hx hb dX7_shows_27 ?_
    refine ro_S (As := [.int (nI k), .int (nI 0), .int ((nI (c.R 1 i)) - (nI 1))]) (rest := [.ref (ad 0 0)]) (v := bI (isInS (nI k) (nI 0) ((nI (c.R 1 i)) - (nI 1)))) hx hb hml hown hC hS hAb (mX7_isIn l (nI k) (nI 0) ((nI (c.R 1 i)) - (nI 1)) ) kS_X7_37 ⟨rfl, rfl⟩ ⟨Nat.le_of_ble_eq_true rfl, Nat.le_of_ble_eq_true rfl⟩ rfl hl (Nat.le_of_ble_eq_true rfl) ⟨show _ ≤ (0 : Nat) by omega, show _ ≤ (0 : Nat) by omega⟩ dX7_shows_28 ?_
    refine lv_bif_ne (tgt := 38) hx hb dX7_shows_31 (by decide) (fun c_31 => ?_) (fun c_31 => ?_)
    · skip
      refine lv_iconstN hx hb 0 dX7_shows_38 (by decide) ?_
      refine lv_iconstN hx hb 1 dX7_shows_39 (by decide) ?_
      refine mu_V (As := [.int (nI 0), .int (nI 1)]) (h0 := ad 0 0) (rest := []) (v := bI false) hx hb hml hown hC hS hAb (mX7_start_f l hX 1 ) (fun q h => h.elim (hA q) (fun z => hN q (Nat.le_trans hS.1 z))) kV_X7_41 ⟨rfl, rfl⟩ ⟨Nat.le_of_ble_eq_true rfl, Nat.le_of_ble_eq_true rfl⟩ (hP.recv hC cM_0 rfl) rfl hl (Nat.le_of_ble_eq_true rfl) ⟨show 0 + 0 ≤ (0 : Nat) by omega, show 0 + 0 ≤ (0 : Nat) by omega⟩ dX7_shows_40 (fun H locs hB hS9 hz hk => ?_)
      have hS := hS9
      have hX : PM E c (nI 0) ly L ad H := hB
      obtain ⟨hP, hly, hLb, wfx, ex0, ex1, ex2⟩ := id hX
      refine lv_bif_eq (tgt := 50) hx hb dX7_shows_43 (by decide) (fun c_43 => ?_) (fun c_43 => ?_)
      · skip
        refine lv_aload_n hx hb dX7_shows_50 rfl (lv_at hl 0 rfl) ?_
        refine pi_get hx hb hC hown hP fL_X7_16 0 0 cM_0 (v := .ref (ad 1 0)) rfl dX7_shows_51 ?_
        refine lv_iload_n hx hb dX7_shows_54 rfl (lv_at hl 1 rfl) ?_
        refine ro_VR (As := [.int (nI i)]) (h0 := ad 1 0) (rest := []) (v := some (ad 3 i)) hx hb hml hown hC hS hAb (mJ_get l hP 0 (cM_1 (by decide)) (fun h9 => cM_2 (by decide) h9) (hly 0 (by decide)) i (by first | assumption | omega)) kV_X7_63 ⟨rfl, rfl⟩ ⟨Nat.le_of_ble_eq_true rfl, Nat.le_of_ble_eq_true rfl⟩ (hP.recv hC (cM_1 (i := 0) (by decide)) rfl) rfl hl (Nat.le_of_ble_eq_true rfl) ⟨show _ ≤ (0 : Nat) by omega, show _ ≤ (0 : Nat) by omega⟩ dX7_shows_55 ?_
        have hg_4 : i < c.R 11 0 := by have := wf.sw; omega
        refine pi_cast (nm := "") hx hb hC hown hP 3 i (cM_3 hg_4) rfl wCl_X7_44 dX7_shows_58 ?_
        refine pi_get hx hb hC hown hP fL_X7_97 3 i (cM_3 hg_4) (v := .ref (ad 4 i)) rfl dX7_shows_61 ?_
        have g_5 : 4 ≤ c.R 1 i ∧ c.R 1 i ≤ 16 := wfx.wd hg_4
        refine lv_iload_n hx hb dX7_shows_64 rfl (lv_at hl 2 rfl) ?_
        refine pi_iald (n := c.R 1 i) hx hb hC hP 4 i (cM_4 hg_4) (j := k) (by first | assumption | omega) (by omega) dX7_shows_65 ?_
        rcases d_65 : c.sh i k with _ | j_65
        · skip
          have sd_65 : shI c i k = -1 := shI_n d_65
          rw [sd_65]
          exact mu_iret (x := (-1)) hx hb hr hlocks hS (hX) (by first | exact (shI_n d_65).symm | exact (shI_s d_65).symm | rfl) dX7_shows_66
        · skip
          have sd_65 : shI c i k = nI j_65 := shI_s d_65
          rw [sd_65]
          have hj_65 : j_65 < c.R 11 2 := wfx.sj hg_4 (by first | assumption | omega) d_65
          have g_6 := wf.nl
          exact mu_iret (x := nI j_65) hx hb hr hlocks hS (hX) (by first | exact (shI_n d_65).symm | exact (shI_s d_65).symm | rfl) dX7_shows_66
      · skip
        exact absurd (c_43.symm.trans rfl) (by decide)
    · skip
      exact absurd (c_31.symm.trans (isIn_t hk (by have := wf.wd (i := i) (by have := wf.sw; omega); omega))) (by decide)
set_option maxHeartbeats 4000000 in
set_option maxRecDepth 100000 in
theorem mX7_shows_b1 (l : Launch) {E : En} {c : Cy} {th : Int32} {ly : Ly} {L : List Nat} {ad : Nat → Nat → Nat} {H0 : Heap} (hX : PM E c th ly L ad H0) (v w : Int32) (hv : isInS v (nI 0) (nI (c.R 10 0) - nI 1) = false) : MuI l yX7_shows cX7_shows 3 .int (rmk 2 0 0 44) [.ref (ad 0 0), .int v, .int w] E H0 (nI 0) (fun H1 => PM E c (nI 1) ly L ad H1) (cA L H0) 0 0 := by
  obtain ⟨hP, hly, hLb, wf, eq0, eq1, eq2⟩ := id hX
  have wfx := wf
  refine ro_of (by decide) (Nat.le_of_ble_eq_true rfl) ?_
  intro p e s m below meth co ls hx hb hr hml hown hlocks hnm hC hU hl
  have hS : va_S (cA L H0) s.heap H0 [] := by rw [hU]; exact va_S.rf
  have hA : ∀ q, q ∈ L → cA L H0 q := fun q h => Or.inl h
  have hN : ∀ q, s.heap.size ≤ q → cA L H0 q := fun q h => Or.inr (by rw [← hU]; exact h)
  have hAb : ∀ q, cA L H0 q → bA E q := fun q h => h.elim (hLb q) (fun z => Nat.le_trans hC.2.2.2.1 (by rw [hU]; exact z))
  have hl : lv_has ls 3 [(0, .ref (ad 0 0)), (1, .int v), (2, .int w)] := hl
  refine lv_aload_n hx hb dX7_shows_0 rfl (lv_at hl 0 rfl) ?_
  refine lv_aload_n hx hb dX7_shows_1 rfl (lv_at hl 0 rfl) ?_
  refine lv_iload_n hx hb dX7_shows_2 rfl (lv_at hl 1 rfl) ?_
  refine ro_V (As := [.int v]) (h0 := ad 0 0) (rest := [.ref (ad 0 0)]) (v := bI (!isInS v (nI 0) (nI (c.R 10 0) - nI 1))) hx hb hml hown hC hS hAb (mX7_isNoWall l hX v ) kV_X7_56 ⟨rfl, rfl⟩ ⟨Nat.le_of_ble_eq_true rfl, Nat.le_of_ble_eq_true rfl⟩ (hP.recv hC cM_0 rfl) rfl hl (Nat.le_of_ble_eq_true rfl) ⟨show _ ≤ (0 : Nat) by omega, show _ ≤ (0 : Nat) by omega⟩ dX7_shows_3 ?_
  refine lv_bif_ne (tgt := 34) hx hb dX7_shows_6 (by decide) (fun c_6 => ?_) (fun c_6 => ?_)
  · skip
    refine lv_iconstN hx hb 1 dX7_shows_34 (by decide) ?_
    refine lv_goto (tgt := 39) hx hb dX7_shows_35 (by decide) ?_
    refine lv_iconstN hx hb 1 dX7_shows_39 (by decide) ?_
    refine mu_V (As := [.int (nI 1), .int (nI 1)]) (h0 := ad 0 0) (rest := []) (v := bI true) hx hb hml hown hC hS hAb (mX7_start_t l hX 1 (show 1 ≤ 1 by first | assumption | omega | decide | (simp only [decide_eq_false_iff_not, decide_eq_true_eq] at *; omega)) (show 1 < 10 by first | assumption | omega | decide | (simp only [decide_eq_false_iff_not, decide_eq_true_eq] at *; omega))) (fun q h => h.elim (hA q) (fun z => hN q (Nat.le_trans hS.1 z))) kV_X7_41 ⟨rfl, rfl⟩ ⟨Nat.le_of_ble_eq_true rfl, Nat.le_of_ble_eq_true rfl⟩ (hP.recv hC cM_0 rfl) rfl hl (Nat.le_of_ble_eq_true rfl) ⟨show 0 + 0 ≤ (0 : Nat) by omega, show 0 + 0 ≤ (0 : Nat) by omega⟩ dX7_shows_40 (fun H locs hB hS9 hz hk => ?_)
    have hS := hS9
    have hX : PM E c (nI 1) ly L ad H := hB
    obtain ⟨hP, hly, hLb, wfx, ex0, ex1, ex2⟩ := id hX
    refine lv_bif_eq (tgt := 50) hx hb dX7_shows_43 (by decide) (fun c_43 => ?_) (fun c_43 => ?_)
    · skip
      exact absurd (c_43.symm.trans rfl) (by decide)
    · skip
      refine lv_iconstN hx hb 0 dX7_shows_46 (by decide) ?_
      refine lv_goto (tgt := 66) hx hb dX7_shows_47 (by decide) ?_
      exact mu_iret (x := nI 0) hx hb hr hlocks hS (hX) (by first | rfl | (simp [c_6, c_43]; done) | (simp [c_6, c_43]; omega) | (simp_all [c_6, c_43]; done)) dX7_shows_66
  · skip
    exact absurd (c_6.symm.trans (by rw [hv]; rfl : (!isInS v (nI 0) (nI (c.R 10 0) - nI 1)) = true)) (by decide)
set_option maxHeartbeats 4000000 in
set_option maxRecDepth 100000 in
theorem mX7_shows_b2 (l : Launch) {E : En} {c : Cy} {th : Int32} {ly : Ly} {L : List Nat} {ad : Nat → Nat → Nat} {H0 : Heap} (hX : PM E c th ly L ad H0) (i : Nat) (w : Int32) (hi : i < c.R 10 0) (hw : isInS w (nI 0) (nI (c.R 1 i) - nI 1) = false) : MuI l yX7_shows cX7_shows 3 .int (rmk 3 0 0 64) [.ref (ad 0 0), .int (nI i), .int w] E H0 (nI 0) (fun H1 => PM E c (nI 1) ly L ad H1) (cA L H0) 0 0 := by
  obtain ⟨hP, hly, hLb, wf, eq0, eq1, eq2⟩ := id hX
  have wfx := wf
  refine ro_of (by decide) (Nat.le_of_ble_eq_true rfl) ?_
  intro p e s m below meth co ls hx hb hr hml hown hlocks hnm hC hU hl
  have hS : va_S (cA L H0) s.heap H0 [] := by rw [hU]; exact va_S.rf
  have hA : ∀ q, q ∈ L → cA L H0 q := fun q h => Or.inl h
  have hN : ∀ q, s.heap.size ≤ q → cA L H0 q := fun q h => Or.inr (by rw [← hU]; exact h)
  have hAb : ∀ q, cA L H0 q → bA E q := fun q h => h.elim (hLb q) (fun z => Nat.le_trans hC.2.2.2.1 (by rw [hU]; exact z))
  have hl : lv_has ls 3 [(0, .ref (ad 0 0)), (1, .int (nI i)), (2, .int w)] := hl
  refine lv_aload_n hx hb dX7_shows_0 rfl (lv_at hl 0 rfl) ?_
  refine lv_aload_n hx hb dX7_shows_1 rfl (lv_at hl 0 rfl) ?_
  refine lv_iload_n hx hb dX7_shows_2 rfl (lv_at hl 1 rfl) ?_
  refine ro_V (As := [.int (nI i)]) (h0 := ad 0 0) (rest := [.ref (ad 0 0)]) (v := bI (!isInS (nI i) (nI 0) (nI (c.R 10 0) - nI 1))) hx hb hml hown hC hS hAb (mX7_isNoWall l hX (nI i) ) kV_X7_56 ⟨rfl, rfl⟩ ⟨Nat.le_of_ble_eq_true rfl, Nat.le_of_ble_eq_true rfl⟩ (hP.recv hC cM_0 rfl) rfl hl (Nat.le_of_ble_eq_true rfl) ⟨show _ ≤ (0 : Nat) by omega, show _ ≤ (0 : Nat) by omega⟩ dX7_shows_3 ?_
  refine lv_bif_ne (tgt := 34) hx hb dX7_shows_6 (by decide) (fun c_6 => ?_) (fun c_6 => ?_)
  · skip
    exact absurd (c_6.symm.trans (by rw [isIn_t hi (by have := wf.sw; have := wf.sh'; have := wf.sl; have := wf.nw; have := wf.nh; have := wf.nl; omega)]; rfl : (!isInS (nI i) (nI 0) (nI (c.R 10 0) - nI 1)) = false)) (by decide)
  · skip
    refine lv_iload_n hx hb dX7_shows_9 rfl (lv_at hl 2 rfl) ?_
    refine lv_iconstN hx hb 0 dX7_shows_10 (by decide) ?_
    refine lv_aload_n hx hb dX7_shows_11 rfl (lv_at hl 0 rfl) ?_
    refine pi_get hx hb hC hown hP fL_X7_16 0 0 cM_0 (v := .ref (ad 1 0)) rfl dX7_shows_12 ?_
    refine lv_iload_n hx hb dX7_shows_15 rfl (lv_at hl 1 rfl) ?_
    refine ro_VR (As := [.int (nI i)]) (h0 := ad 1 0) (rest := [.int (nI 0), .int w, .ref (ad 0 0)]) (v := some (ad 3 i)) hx hb hml hown hC hS hAb (mJ_get l hP 0 (cM_1 (by decide)) (fun h9 => cM_2 (by decide) h9) (hly 0 (by decide)) i (by first | assumption | omega)) kV_X7_63 ⟨rfl, rfl⟩ ⟨Nat.le_of_ble_eq_true rfl, Nat.le_of_ble_eq_true rfl⟩ (hP.recv hC (cM_1 (i := 0) (by decide)) rfl) rfl hl (Nat.le_of_ble_eq_true rfl) ⟨show _ ≤ (0 : Nat) by omega, show _ ≤ (0 : Nat) by omega⟩ dX7_shows_16 ?_
    have hg_1 : i < c.R 11 0 := by have := wf.sw; omega
    refine pi_cast (nm := "") hx hb hC hown hP 3 i (cM_3 hg_1) rfl wCl_X7_44 dX7_shows_19 ?_
    refine pi_get hx hb hC hown hP fL_X7_97 3 i (cM_3 hg_1) (v := .ref (ad 4 i)) rfl dX7_shows_22 ?_
    have g_2 : 4 ≤ c.R 1 i ∧ c.R 1 i ≤ 16 := wfx.wd hg_1
    refine pi_alen hx hb hC hP 4 i 0 rfl (cM_4 hg_1) dX7_shows_25 ?_
    have g_3 : 4 ≤ c.R 1 i ∧ c.R 1 i ≤ 16 := wfx.wd hg_1
    refine lv_iconstN hx hb 1 dX7_shows_26 (by decide) ?_
    refine lv_isub hx hb dX7_shows_27 ?_
    refine ro_S (As := [.int w, .int (nI 0), .int ((nI (c.R 1 i)) - (nI 1))]) (rest := [.ref (ad 0 0)]) (v := bI (isInS w (nI 0) ((nI (c.R 1 i)) - (nI 1)))) hx hb hml hown hC hS hAb (mX7_isIn l w (nI 0) ((nI (c.R 1 i)) - (nI 1)) ) kS_X7_37 ⟨rfl, rfl⟩ ⟨Nat.le_of_ble_eq_true rfl, Nat.le_of_ble_eq_true rfl⟩ rfl hl (Nat.le_of_ble_eq_true rfl) ⟨show _ ≤ (0 : Nat) by omega, show _ ≤ (0 : Nat) by omega⟩ dX7_shows_28 ?_
    refine lv_bif_ne (tgt := 38) hx hb dX7_shows_31 (by decide) (fun c_31 => ?_) (fun c_31 => ?_)
    · skip
      exact absurd (c_31.symm.trans hw) (by decide)
    · skip
      refine lv_iconstN hx hb 1 dX7_shows_34 (by decide) ?_
      refine lv_goto (tgt := 39) hx hb dX7_shows_35 (by decide) ?_
      refine lv_iconstN hx hb 1 dX7_shows_39 (by decide) ?_
      refine mu_V (As := [.int (nI 1), .int (nI 1)]) (h0 := ad 0 0) (rest := []) (v := bI true) hx hb hml hown hC hS hAb (mX7_start_t l hX 1 (show 1 ≤ 1 by first | assumption | omega | decide | (simp only [decide_eq_false_iff_not, decide_eq_true_eq] at *; omega)) (show 1 < 10 by first | assumption | omega | decide | (simp only [decide_eq_false_iff_not, decide_eq_true_eq] at *; omega))) (fun q h => h.elim (hA q) (fun z => hN q (Nat.le_trans hS.1 z))) kV_X7_41 ⟨rfl, rfl⟩ ⟨Nat.le_of_ble_eq_true rfl, Nat.le_of_ble_eq_true rfl⟩ (hP.recv hC cM_0 rfl) rfl hl (Nat.le_of_ble_eq_true rfl) ⟨show 0 + 0 ≤ (0 : Nat) by omega, show 0 + 0 ≤ (0 : Nat) by omega⟩ dX7_shows_40 (fun H locs hB hS9 hz hk => ?_)
      have hS := hS9
      have hX : PM E c (nI 1) ly L ad H := hB
      obtain ⟨hP, hly, hLb, wfx, ex0, ex1, ex2⟩ := id hX
      refine lv_bif_eq (tgt := 50) hx hb dX7_shows_43 (by decide) (fun c_43 => ?_) (fun c_43 => ?_)
      · skip
        exact absurd (c_43.symm.trans rfl) (by decide)
      · skip
        refine lv_iconstN hx hb 0 dX7_shows_46 (by decide) ?_
        refine lv_goto (tgt := 66) hx hb dX7_shows_47 (by decide) ?_
        exact mu_iret (x := nI 0) hx hb hr hlocks hS (hX) (by first | rfl | (simp [c_6, c_31, c_43]; done) | (simp [c_6, c_31, c_43]; omega) | (simp_all [c_6, c_31, c_43]; done)) dX7_shows_66
set_option maxHeartbeats 4000000 in
set_option maxRecDepth 100000 in
theorem mX7_wrongs_g (l : Launch) {E : En} {c : Cy} {th : Int32} {ly : Ly} {L : List Nat} {ad : Nat → Nat → Nat} {H0 : Heap} (hX : PM E c th ly L ad H0) (h g : Nat) (hh : h < c.R 10 1) (hg : g < c.R 10 1) : MuI l yX7_wrongs cX7_wrongs 3 .int (rmk 3 0 0 64) [.ref (ad 0 0), .int (nI h), .int (nI g)] E H0 (c.Wr h g) (fun H1 => PM E c (nI 0) ly L ad H1) (cA L H0) 0 0 := by
  obtain ⟨hP, hly, hLb, wf, eq0, eq1, eq2⟩ := id hX
  have wfx := wf
  refine ro_of (by decide) (Nat.le_of_ble_eq_true rfl) ?_
  intro p e s m below meth co ls hx hb hr hml hown hlocks hnm hC hU hl
  have hS : va_S (cA L H0) s.heap H0 [] := by rw [hU]; exact va_S.rf
  have hA : ∀ q, q ∈ L → cA L H0 q := fun q h => Or.inl h
  have hN : ∀ q, s.heap.size ≤ q → cA L H0 q := fun q h => Or.inr (by rw [← hU]; exact h)
  have hAb : ∀ q, cA L H0 q → bA E q := fun q h => h.elim (hLb q) (fun z => Nat.le_trans hC.2.2.2.1 (by rw [hU]; exact z))
  have hl : lv_has ls 3 [(0, .ref (ad 0 0)), (1, .int (nI h)), (2, .int (nI g))] := hl
  have gn := wf.nh
  have gs := wf.sh'
  refine lv_aload_n hx hb dX7_wrongs_0 rfl (lv_at hl 0 rfl) ?_
  refine lv_aload_n hx hb dX7_wrongs_1 rfl (lv_at hl 0 rfl) ?_
  refine lv_iload_n hx hb dX7_wrongs_2 rfl (lv_at hl 1 rfl) ?_
  refine ro_V (As := [.int (nI h)]) (h0 := ad 0 0) (rest := [.ref (ad 0 0)]) (v := bI (!isInS (nI h) (nI 0) (nI (c.R 10 1) - nI 1))) hx hb hml hown hC hS hAb (mX7_isNoHand l hX (nI h) ) kV_X7_113 ⟨rfl, rfl⟩ ⟨Nat.le_of_ble_eq_true rfl, Nat.le_of_ble_eq_true rfl⟩ (hP.recv hC cM_0 rfl) rfl hl (Nat.le_of_ble_eq_true rfl) ⟨show _ ≤ (0 : Nat) by omega, show _ ≤ (0 : Nat) by omega⟩ dX7_wrongs_3 ?_
  refine lv_bif_ne (tgt := 17) hx hb dX7_wrongs_6 (by decide) (fun c_6 => ?_) (fun c_6 => ?_)
  · skip
    exact absurd (c_6.symm.trans (by rw [isIn_t hh (by have := wf.sw; have := wf.sh'; have := wf.sl; have := wf.nw; have := wf.nh; have := wf.nl; omega)]; rfl : (!isInS (nI h) (nI 0) (nI (c.R 10 1) - nI 1)) = false)) (by decide)
  · skip
    refine lv_aload_n hx hb dX7_wrongs_9 rfl (lv_at hl 0 rfl) ?_
    refine lv_iload_n hx hb dX7_wrongs_10 rfl (lv_at hl 2 rfl) ?_
    refine ro_V (As := [.int (nI g)]) (h0 := ad 0 0) (rest := [.ref (ad 0 0)]) (v := bI (!isInS (nI g) (nI 0) (nI (c.R 10 1) - nI 1))) hx hb hml hown hC hS hAb (mX7_isNoHand l hX (nI g) ) kV_X7_113 ⟨rfl, rfl⟩ ⟨Nat.le_of_ble_eq_true rfl, Nat.le_of_ble_eq_true rfl⟩ (hP.recv hC cM_0 rfl) rfl hl (Nat.le_of_ble_eq_true rfl) ⟨show _ ≤ (0 : Nat) by omega, show _ ≤ (0 : Nat) by omega⟩ dX7_wrongs_11 ?_
    refine lv_bif_eq (tgt := 21) hx hb dX7_wrongs_14 (by decide) (fun c_14 => ?_) (fun c_14 => ?_)
    · skip
      refine lv_iconstN hx hb 0 dX7_wrongs_21 (by decide) ?_
      refine lv_iconstN hx hb 1 dX7_wrongs_22 (by decide) ?_
      refine mu_V (As := [.int (nI 0), .int (nI 1)]) (h0 := ad 0 0) (rest := []) (v := bI false) hx hb hml hown hC hS hAb (mX7_start_f l hX 1 ) (fun q h => h.elim (hA q) (fun z => hN q (Nat.le_trans hS.1 z))) kV_X7_41 ⟨rfl, rfl⟩ ⟨Nat.le_of_ble_eq_true rfl, Nat.le_of_ble_eq_true rfl⟩ (hP.recv hC cM_0 rfl) rfl hl (Nat.le_of_ble_eq_true rfl) ⟨show 0 + 0 ≤ (0 : Nat) by omega, show 0 + 0 ≤ (0 : Nat) by omega⟩ dX7_wrongs_23 (fun H locs hB hS9 hz hk => ?_)
      have hS := hS9
      have hX : PM E c (nI 0) ly L ad H := hB
      obtain ⟨hP, hly, hLb, wfx, ex0, ex1, ex2⟩ := id hX
      refine lv_bif_eq (tgt := 33) hx hb dX7_wrongs_26 (by decide) (fun c_26 => ?_) (fun c_26 => ?_)
      · skip
        refine lv_aload_n hx hb dX7_wrongs_33 rfl (lv_at hl 0 rfl) ?_
        refine pi_get hx hb hC hown hP fL_X7_20 0 0 cM_0 (v := .ref (ad 1 1)) rfl dX7_wrongs_34 ?_
        refine lv_iload_n hx hb dX7_wrongs_37 rfl (lv_at hl 1 rfl) ?_
        refine ro_VR (As := [.int (nI h)]) (h0 := ad 1 1) (rest := []) (v := some (ad 5 h)) hx hb hml hown hC hS hAb (mJ_get l hP 1 (cM_1 (by decide)) (fun h9 => cM_2 (by decide) h9) (hly 1 (by decide)) h (by first | assumption | omega)) kV_X7_63 ⟨rfl, rfl⟩ ⟨Nat.le_of_ble_eq_true rfl, Nat.le_of_ble_eq_true rfl⟩ (hP.recv hC (cM_1 (i := 1) (by decide)) rfl) rfl hl (Nat.le_of_ble_eq_true rfl) ⟨show _ ≤ (0 : Nat) by omega, show _ ≤ (0 : Nat) by omega⟩ dX7_wrongs_38 ?_
        have hg_1 : h < c.R 11 1 := by have := wf.sh'; omega
        refine pi_cast (nm := "") hx hb hC hown hP 5 h (cM_5 hg_1) rfl wCl_X7_53 dX7_wrongs_41 ?_
        refine pi_get hx hb hC hown hP fL_X7_130 5 h (cM_5 hg_1) (v := .ref (ad 6 h)) rfl dX7_wrongs_44 ?_
        refine lv_iload_n hx hb dX7_wrongs_47 rfl (lv_at hl 2 rfl) ?_
        refine pi_iald hx hb hC hP 6 h (cM_6 hg_1) (j := g) (by omega) (by omega) dX7_wrongs_48 ?_
        exact mu_iret (x := c.Wr h g) hx hb hr hlocks hS (hX) (by first | rfl | (simp [c_6, c_14, c_26]; done) | (simp [c_6, c_14, c_26]; omega) | (simp_all [c_6, c_14, c_26]; done)) dX7_wrongs_49
      · skip
        exact absurd (c_26.symm.trans rfl) (by decide)
    · skip
      exact absurd (c_14.symm.trans (by rw [isIn_t hg (by have := wf.sw; have := wf.sh'; have := wf.sl; have := wf.nw; have := wf.nh; have := wf.nl; omega)]; rfl : (!isInS (nI g) (nI 0) (nI (c.R 10 1) - nI 1)) = false)) (by decide)
set_option maxHeartbeats 4000000 in
set_option maxRecDepth 100000 in
theorem mX7_wrongs_b1 (l : Launch) {E : En} {c : Cy} {th : Int32} {ly : Ly} {L : List Nat} {ad : Nat → Nat → Nat} {H0 : Heap} (hX : PM E c th ly L ad H0) (v w : Int32) (hv : (isInS v (nI 0) (nI (c.R 10 1) - nI 1) && isInS w (nI 0) (nI (c.R 10 1) - nI 1)) = false) : MuI l yX7_wrongs cX7_wrongs 3 .int (rmk 2 0 0 44) [.ref (ad 0 0), .int v, .int w] E H0 (nI 0) (fun H1 => PM E c (nI 1) ly L ad H1) (cA L H0) 0 0 := by
  obtain ⟨hP, hly, hLb, wf, eq0, eq1, eq2⟩ := id hX
  have wfx := wf
  refine ro_of (by decide) (Nat.le_of_ble_eq_true rfl) ?_
  intro p e s m below meth co ls hx hb hr hml hown hlocks hnm hC hU hl
  have hS : va_S (cA L H0) s.heap H0 [] := by rw [hU]; exact va_S.rf
  have hA : ∀ q, q ∈ L → cA L H0 q := fun q h => Or.inl h
  have hN : ∀ q, s.heap.size ≤ q → cA L H0 q := fun q h => Or.inr (by rw [← hU]; exact h)
  have hAb : ∀ q, cA L H0 q → bA E q := fun q h => h.elim (hLb q) (fun z => Nat.le_trans hC.2.2.2.1 (by rw [hU]; exact z))
  have hl : lv_has ls 3 [(0, .ref (ad 0 0)), (1, .int v), (2, .int w)] := hl
  refine lv_aload_n hx hb dX7_wrongs_0 rfl (lv_at hl 0 rfl) ?_
  refine lv_aload_n hx hb dX7_wrongs_1 rfl (lv_at hl 0 rfl) ?_
  refine lv_iload_n hx hb dX7_wrongs_2 rfl (lv_at hl 1 rfl) ?_
  refine ro_V (As := [.int v]) (h0 := ad 0 0) (rest := [.ref (ad 0 0)]) (v := bI (!isInS v (nI 0) (nI (c.R 10 1) - nI 1))) hx hb hml hown hC hS hAb (mX7_isNoHand l hX v ) kV_X7_113 ⟨rfl, rfl⟩ ⟨Nat.le_of_ble_eq_true rfl, Nat.le_of_ble_eq_true rfl⟩ (hP.recv hC cM_0 rfl) rfl hl (Nat.le_of_ble_eq_true rfl) ⟨show _ ≤ (0 : Nat) by omega, show _ ≤ (0 : Nat) by omega⟩ dX7_wrongs_3 ?_
  refine lv_bif_ne (tgt := 17) hx hb dX7_wrongs_6 (by decide) (fun c_6 => ?_) (fun c_6 => ?_)
  · skip
    refine lv_iconstN hx hb 1 dX7_wrongs_17 (by decide) ?_
    refine lv_goto (tgt := 22) hx hb dX7_wrongs_18 (by decide) ?_
    refine lv_iconstN hx hb 1 dX7_wrongs_22 (by decide) ?_
    refine mu_V (As := [.int (nI 1), .int (nI 1)]) (h0 := ad 0 0) (rest := []) (v := bI true) hx hb hml hown hC hS hAb (mX7_start_t l hX 1 (show 1 ≤ 1 by first | assumption | omega | decide | (simp only [decide_eq_false_iff_not, decide_eq_true_eq] at *; omega)) (show 1 < 10 by first | assumption | omega | decide | (simp only [decide_eq_false_iff_not, decide_eq_true_eq] at *; omega))) (fun q h => h.elim (hA q) (fun z => hN q (Nat.le_trans hS.1 z))) kV_X7_41 ⟨rfl, rfl⟩ ⟨Nat.le_of_ble_eq_true rfl, Nat.le_of_ble_eq_true rfl⟩ (hP.recv hC cM_0 rfl) rfl hl (Nat.le_of_ble_eq_true rfl) ⟨show 0 + 0 ≤ (0 : Nat) by omega, show 0 + 0 ≤ (0 : Nat) by omega⟩ dX7_wrongs_23 (fun H locs hB hS9 hz hk => ?_)
    have hS := hS9
    have hX : PM E c (nI 1) ly L ad H := hB
    obtain ⟨hP, hly, hLb, wfx, ex0, ex1, ex2⟩ := id hX
    refine lv_bif_eq (tgt := 33) hx hb dX7_wrongs_26 (by decide) (fun c_26 => ?_) (fun c_26 => ?_)
    · skip
      exact absurd (c_26.symm.trans rfl) (by decide)
    · skip
      refine lv_iconstN hx hb 0 dX7_wrongs_29 (by decide) ?_
      refine lv_goto (tgt := 49) hx hb dX7_wrongs_30 (by decide) ?_
      exact mu_iret (x := nI 0) hx hb hr hlocks hS (hX) (by first | rfl | (simp [c_6, c_26]; done) | (simp [c_6, c_26]; omega) | (simp_all [c_6, c_26]; done)) dX7_wrongs_49
  · skip
    refine lv_aload_n hx hb dX7_wrongs_9 rfl (lv_at hl 0 rfl) ?_
    refine lv_iload_n hx hb dX7_wrongs_10 rfl (lv_at hl 2 rfl) ?_
    refine ro_V (As := [.int w]) (h0 := ad 0 0) (rest := [.ref (ad 0 0)]) (v := bI (!isInS w (nI 0) (nI (c.R 10 1) - nI 1))) hx hb hml hown hC hS hAb (mX7_isNoHand l hX w ) kV_X7_113 ⟨rfl, rfl⟩ ⟨Nat.le_of_ble_eq_true rfl, Nat.le_of_ble_eq_true rfl⟩ (hP.recv hC cM_0 rfl) rfl hl (Nat.le_of_ble_eq_true rfl) ⟨show _ ≤ (0 : Nat) by omega, show _ ≤ (0 : Nat) by omega⟩ dX7_wrongs_11 ?_
    refine lv_bif_eq (tgt := 21) hx hb dX7_wrongs_14 (by decide) (fun c_14 => ?_) (fun c_14 => ?_)
    · skip
      exact absurd hv (by simp at c_6 c_14; simp [c_6, c_14])
    · skip
      refine lv_iconstN hx hb 1 dX7_wrongs_17 (by decide) ?_
      refine lv_goto (tgt := 22) hx hb dX7_wrongs_18 (by decide) ?_
      refine lv_iconstN hx hb 1 dX7_wrongs_22 (by decide) ?_
      refine mu_V (As := [.int (nI 1), .int (nI 1)]) (h0 := ad 0 0) (rest := []) (v := bI true) hx hb hml hown hC hS hAb (mX7_start_t l hX 1 (show 1 ≤ 1 by first | assumption | omega | decide | (simp only [decide_eq_false_iff_not, decide_eq_true_eq] at *; omega)) (show 1 < 10 by first | assumption | omega | decide | (simp only [decide_eq_false_iff_not, decide_eq_true_eq] at *; omega))) (fun q h => h.elim (hA q) (fun z => hN q (Nat.le_trans hS.1 z))) kV_X7_41 ⟨rfl, rfl⟩ ⟨Nat.le_of_ble_eq_true rfl, Nat.le_of_ble_eq_true rfl⟩ (hP.recv hC cM_0 rfl) rfl hl (Nat.le_of_ble_eq_true rfl) ⟨show 0 + 0 ≤ (0 : Nat) by omega, show 0 + 0 ≤ (0 : Nat) by omega⟩ dX7_wrongs_23 (fun H locs hB hS9 hz hk => ?_)
      have hS := hS9
      have hX : PM E c (nI 1) ly L ad H := hB
      obtain ⟨hP, hly, hLb, wfx, ex0, ex1, ex2⟩ := id hX
      refine lv_bif_eq (tgt := 33) hx hb dX7_wrongs_26 (by decide) (fun c_26 => ?_) (fun c_26 => ?_)
      · skip
        exact absurd (c_26.symm.trans rfl) (by decide)
      · skip
        refine lv_iconstN hx hb 0 dX7_wrongs_29 (by decide) ?_
        refine lv_goto (tgt := 49) hx hb dX7_wrongs_30 (by decide) ?_
        exact mu_iret (x := nI 0) hx hb hr hlocks hS (hX) (by first | rfl | (simp [c_6, c_14, c_26]; done) | (simp [c_6, c_14, c_26]; omega) | (simp_all [c_6, c_14, c_26]; done)) dX7_wrongs_49
set_option maxHeartbeats 4000000 in
set_option maxRecDepth 100000 in
theorem mX7_likeness_g (l : Launch) {E : En} {c : Cy} {th : Int32} {ly : Ly} {L : List Nat} {ad : Nat → Nat → Nat} {H0 : Heap} (hX : PM E c th ly L ad H0) (j k : Nat) (hj : j < c.R 10 2) (hk : k < c.R 10 2) : MuI l yX7_likeness cX7_likeness 3 .int (rmk 3 0 0 64) [.ref (ad 0 0), .int (nI j), .int (nI k)] E H0 (lkS c j k) (fun H1 => PM E c (nI 0) ly L ad H1) (cA L H0) 0 0 := by
  obtain ⟨hP, hly, hLb, wf, eq0, eq1, eq2⟩ := id hX
  have wfx := wf
  refine ro_of (by decide) (Nat.le_of_ble_eq_true rfl) ?_
  intro p e s m below meth co ls hx hb hr hml hown hlocks hnm hC hU hl
  have hS : va_S (cA L H0) s.heap H0 [] := by rw [hU]; exact va_S.rf
  have hA : ∀ q, q ∈ L → cA L H0 q := fun q h => Or.inl h
  have hN : ∀ q, s.heap.size ≤ q → cA L H0 q := fun q h => Or.inr (by rw [← hU]; exact h)
  have hAb : ∀ q, cA L H0 q → bA E q := fun q h => h.elim (hLb q) (fun z => Nat.le_trans hC.2.2.2.1 (by rw [hU]; exact z))
  have hl : lv_has ls 3 [(0, .ref (ad 0 0)), (1, .int (nI j)), (2, .int (nI k))] := hl
  refine lv_aload_n hx hb dX7_likeness_0 rfl (lv_at hl 0 rfl) ?_
  refine lv_aload_n hx hb dX7_likeness_1 rfl (lv_at hl 0 rfl) ?_
  refine lv_iload_n hx hb dX7_likeness_2 rfl (lv_at hl 1 rfl) ?_
  refine ro_V (As := [.int (nI j)]) (h0 := ad 0 0) (rest := [.ref (ad 0 0)]) (v := bI (!isInS (nI j) (nI 0) (nI (c.R 10 2) - nI 1))) hx hb hml hown hC hS hAb (mX7_isNoLayer l hX (nI j) ) kV_X7_203 ⟨rfl, rfl⟩ ⟨Nat.le_of_ble_eq_true rfl, Nat.le_of_ble_eq_true rfl⟩ (hP.recv hC cM_0 rfl) rfl hl (Nat.le_of_ble_eq_true rfl) ⟨show _ ≤ (0 : Nat) by omega, show _ ≤ (0 : Nat) by omega⟩ dX7_likeness_3 ?_
  refine lv_bif_ne (tgt := 17) hx hb dX7_likeness_6 (by decide) (fun c_6 => ?_) (fun c_6 => ?_)
  · skip
    exact absurd (c_6.symm.trans (by rw [isIn_t hj (by have := wf.sw; have := wf.sh'; have := wf.sl; have := wf.nw; have := wf.nh; have := wf.nl; omega)]; rfl : (!isInS (nI j) (nI 0) (nI (c.R 10 2) - nI 1)) = false)) (by decide)
  · skip
    refine lv_aload_n hx hb dX7_likeness_9 rfl (lv_at hl 0 rfl) ?_
    refine lv_iload_n hx hb dX7_likeness_10 rfl (lv_at hl 2 rfl) ?_
    refine ro_V (As := [.int (nI k)]) (h0 := ad 0 0) (rest := [.ref (ad 0 0)]) (v := bI (!isInS (nI k) (nI 0) (nI (c.R 10 2) - nI 1))) hx hb hml hown hC hS hAb (mX7_isNoLayer l hX (nI k) ) kV_X7_203 ⟨rfl, rfl⟩ ⟨Nat.le_of_ble_eq_true rfl, Nat.le_of_ble_eq_true rfl⟩ (hP.recv hC cM_0 rfl) rfl hl (Nat.le_of_ble_eq_true rfl) ⟨show _ ≤ (0 : Nat) by omega, show _ ≤ (0 : Nat) by omega⟩ dX7_likeness_11 ?_
    refine lv_bif_eq (tgt := 21) hx hb dX7_likeness_14 (by decide) (fun c_14 => ?_) (fun c_14 => ?_)
    · skip
      refine lv_iconstN hx hb 0 dX7_likeness_21 (by decide) ?_
      refine lv_iconstN hx hb 1 dX7_likeness_22 (by decide) ?_
      refine mu_V (As := [.int (nI 0), .int (nI 1)]) (h0 := ad 0 0) (rest := []) (v := bI false) hx hb hml hown hC hS hAb (mX7_start_f l hX 1 ) (fun q h => h.elim (hA q) (fun z => hN q (Nat.le_trans hS.1 z))) kV_X7_41 ⟨rfl, rfl⟩ ⟨Nat.le_of_ble_eq_true rfl, Nat.le_of_ble_eq_true rfl⟩ (hP.recv hC cM_0 rfl) rfl hl (Nat.le_of_ble_eq_true rfl) ⟨show 0 + 0 ≤ (0 : Nat) by omega, show 0 + 0 ≤ (0 : Nat) by omega⟩ dX7_likeness_23 (fun H locs hB hS9 hz hk => ?_)
      have hS := hS9
      have hX : PM E c (nI 0) ly L ad H := hB
      obtain ⟨hP, hly, hLb, wfx, ex0, ex1, ex2⟩ := id hX
      refine lv_bif_eq (tgt := 31) hx hb dX7_likeness_26 (by decide) (fun c_26 => ?_) (fun c_26 => ?_)
      · skip
        refine lv_bipushN hx hb 20 dX7_likeness_31 (by decide) ?_
        refine lv_aload_n hx hb dX7_likeness_33 rfl (lv_at hl 0 rfl) ?_
        refine pi_get hx hb hC hown hP fL_X7_23 0 0 cM_0 (v := .ref (ad 1 2)) rfl dX7_likeness_34 ?_
        refine lv_iload_n hx hb dX7_likeness_37 rfl (lv_at hl 1 rfl) ?_
        refine ro_VR (As := [.int (nI j)]) (h0 := ad 1 2) (rest := [.int (nI 20)]) (v := some (ad 7 j)) hx hb hml hown hC hS hAb (mJ_get l hP 2 (cM_1 (by decide)) (fun h9 => cM_2 (by decide) h9) (hly 2 (by decide)) j (by first | assumption | omega)) kV_X7_63 ⟨rfl, rfl⟩ ⟨Nat.le_of_ble_eq_true rfl, Nat.le_of_ble_eq_true rfl⟩ (hP.recv hC (cM_1 (i := 2) (by decide)) rfl) rfl hl (Nat.le_of_ble_eq_true rfl) ⟨show _ ≤ (0 : Nat) by omega, show _ ≤ (0 : Nat) by omega⟩ dX7_likeness_38 ?_
        have hg_1 : j < c.R 11 2 := by have := wf.sl; omega
        refine pi_cast (nm := "") hx hb hC hown hP 7 j (cM_7 hg_1) rfl wCl_X7_85 dX7_likeness_41 ?_
        refine pi_get hx hb hC hown hP fL_X7_233 7 j (cM_7 hg_1) (v := .int (slS c j)) rfl dX7_likeness_44 ?_
        refine lv_aload_n hx hb dX7_likeness_47 rfl (lv_at hl 0 rfl) ?_
        refine pi_get hx hb hC hown hP fL_X7_23 0 0 cM_0 (v := .ref (ad 1 2)) rfl dX7_likeness_48 ?_
        refine lv_iload_n hx hb dX7_likeness_51 rfl (lv_at hl 2 rfl) ?_
        refine ro_VR (As := [.int (nI k)]) (h0 := ad 1 2) (rest := [.int (slS c j), .int (nI 20)]) (v := some (ad 7 k)) hx hb hml hown hC hS hAb (mJ_get l hP 2 (cM_1 (by decide)) (fun h9 => cM_2 (by decide) h9) (hly 2 (by decide)) k (by first | assumption | omega)) kV_X7_63 ⟨rfl, rfl⟩ ⟨Nat.le_of_ble_eq_true rfl, Nat.le_of_ble_eq_true rfl⟩ (hP.recv hC (cM_1 (i := 2) (by decide)) rfl) rfl hl (Nat.le_of_ble_eq_true rfl) ⟨show _ ≤ (0 : Nat) by omega, show _ ≤ (0 : Nat) by omega⟩ dX7_likeness_52 ?_
        have hg_2 : k < c.R 11 2 := by have := wf.sl; omega
        refine pi_cast (nm := "") hx hb hC hown hP 7 k (cM_7 hg_2) rfl wCl_X7_85 dX7_likeness_55 ?_
        refine pi_get hx hb hC hown hP fL_X7_233 7 k (cM_7 hg_2) (v := .int (slS c k)) rfl dX7_likeness_58 ?_
        refine lv_isub hx hb dX7_likeness_61 ?_
        refine va_mabs hx hb (hml.trans hl.1.symm) hown (hC.2.1.hts _ _ wAbs_X7) (hC.2.1.hts _ _ wAbsS) (hC.2.1.hts _ _ wAbsI) (hC.2.1.hts _ _ wAbsC) (Nat.le_of_ble_eq_true rfl) (Nat.le_of_ble_eq_true rfl) (Nat.zero_le _) (Nat.zero_le _) (x := ((slS c j) - (slS c k))) (rest := [.int (nI 20)]) dX7_likeness_62 ?_
        refine lv_isub hx hb dX7_likeness_65 ?_
        refine lv_aload_n hx hb dX7_likeness_66 rfl (lv_at hl 0 rfl) ?_
        refine pi_get hx hb hC hown hP fL_X7_23 0 0 cM_0 (v := .ref (ad 1 2)) rfl dX7_likeness_67 ?_
        refine lv_iload_n hx hb dX7_likeness_70 rfl (lv_at hl 1 rfl) ?_
        refine ro_VR (As := [.int (nI j)]) (h0 := ad 1 2) (rest := [.int ((nI 20) - (absS ((slS c j) - (slS c k))))]) (v := some (ad 7 j)) hx hb hml hown hC hS hAb (mJ_get l hP 2 (cM_1 (by decide)) (fun h9 => cM_2 (by decide) h9) (hly 2 (by decide)) j (by first | assumption | omega)) kV_X7_63 ⟨rfl, rfl⟩ ⟨Nat.le_of_ble_eq_true rfl, Nat.le_of_ble_eq_true rfl⟩ (hP.recv hC (cM_1 (i := 2) (by decide)) rfl) rfl hl (Nat.le_of_ble_eq_true rfl) ⟨show _ ≤ (0 : Nat) by omega, show _ ≤ (0 : Nat) by omega⟩ dX7_likeness_71 ?_
        have hg_3 : j < c.R 11 2 := by have := wf.sl; omega
        refine pi_cast (nm := "") hx hb hC hown hP 7 j (cM_7 hg_3) rfl wCl_X7_85 dX7_likeness_74 ?_
        refine pi_get hx hb hC hown hP fL_X7_239 7 j (cM_7 hg_3) (v := .int (rdS c j)) rfl dX7_likeness_77 ?_
        refine lv_aload_n hx hb dX7_likeness_80 rfl (lv_at hl 0 rfl) ?_
        refine pi_get hx hb hC hown hP fL_X7_23 0 0 cM_0 (v := .ref (ad 1 2)) rfl dX7_likeness_81 ?_
        refine lv_iload_n hx hb dX7_likeness_84 rfl (lv_at hl 2 rfl) ?_
        refine ro_VR (As := [.int (nI k)]) (h0 := ad 1 2) (rest := [.int (rdS c j), .int ((nI 20) - (absS ((slS c j) - (slS c k))))]) (v := some (ad 7 k)) hx hb hml hown hC hS hAb (mJ_get l hP 2 (cM_1 (by decide)) (fun h9 => cM_2 (by decide) h9) (hly 2 (by decide)) k (by first | assumption | omega)) kV_X7_63 ⟨rfl, rfl⟩ ⟨Nat.le_of_ble_eq_true rfl, Nat.le_of_ble_eq_true rfl⟩ (hP.recv hC (cM_1 (i := 2) (by decide)) rfl) rfl hl (Nat.le_of_ble_eq_true rfl) ⟨show _ ≤ (0 : Nat) by omega, show _ ≤ (0 : Nat) by omega⟩ dX7_likeness_85 ?_
        have hg_4 : k < c.R 11 2 := by have := wf.sl; omega
        refine pi_cast (nm := "") hx hb hC hown hP 7 k (cM_7 hg_4) rfl wCl_X7_85 dX7_likeness_88 ?_
        refine pi_get hx hb hC hown hP fL_X7_239 7 k (cM_7 hg_4) (v := .int (rdS c k)) rfl dX7_likeness_91 ?_
        refine lv_isub hx hb dX7_likeness_94 ?_
        refine va_mabs hx hb (hml.trans hl.1.symm) hown (hC.2.1.hts _ _ wAbs_X7) (hC.2.1.hts _ _ wAbsS) (hC.2.1.hts _ _ wAbsI) (hC.2.1.hts _ _ wAbsC) (Nat.le_of_ble_eq_true rfl) (Nat.le_of_ble_eq_true rfl) (Nat.zero_le _) (Nat.zero_le _) (x := ((rdS c j) - (rdS c k))) (rest := [.int ((nI 20) - (absS ((slS c j) - (slS c k))))]) dX7_likeness_95 ?_
        refine lv_isub hx hb dX7_likeness_98 ?_
        exact mu_iret (x := ((nI 20) - (absS ((slS c j) - (slS c k)))) - (absS ((rdS c j) - (rdS c k)))) hx hb hr hlocks hS (hX) (by first | rfl | (simp [c_6, c_14, c_26]; done) | (simp [c_6, c_14, c_26]; omega) | (simp_all [c_6, c_14, c_26]; done)) dX7_likeness_99
      · skip
        exact absurd (c_26.symm.trans rfl) (by decide)
    · skip
      exact absurd (c_14.symm.trans (by rw [isIn_t hk (by have := wf.sw; have := wf.sh'; have := wf.sl; have := wf.nw; have := wf.nh; have := wf.nl; omega)]; rfl : (!isInS (nI k) (nI 0) (nI (c.R 10 2) - nI 1)) = false)) (by decide)
set_option maxHeartbeats 4000000 in
set_option maxRecDepth 100000 in
theorem mX7_likeness_b1 (l : Launch) {E : En} {c : Cy} {th : Int32} {ly : Ly} {L : List Nat} {ad : Nat → Nat → Nat} {H0 : Heap} (hX : PM E c th ly L ad H0) (v w : Int32) (hv : (isInS v (nI 0) (nI (c.R 10 2) - nI 1) && isInS w (nI 0) (nI (c.R 10 2) - nI 1)) = false) : MuI l yX7_likeness cX7_likeness 3 .int (rmk 2 0 0 44) [.ref (ad 0 0), .int v, .int w] E H0 (nI 0) (fun H1 => PM E c (nI 1) ly L ad H1) (cA L H0) 0 0 := by
  obtain ⟨hP, hly, hLb, wf, eq0, eq1, eq2⟩ := id hX
  have wfx := wf
  refine ro_of (by decide) (Nat.le_of_ble_eq_true rfl) ?_
  intro p e s m below meth co ls hx hb hr hml hown hlocks hnm hC hU hl
  have hS : va_S (cA L H0) s.heap H0 [] := by rw [hU]; exact va_S.rf
  have hA : ∀ q, q ∈ L → cA L H0 q := fun q h => Or.inl h
  have hN : ∀ q, s.heap.size ≤ q → cA L H0 q := fun q h => Or.inr (by rw [← hU]; exact h)
  have hAb : ∀ q, cA L H0 q → bA E q := fun q h => h.elim (hLb q) (fun z => Nat.le_trans hC.2.2.2.1 (by rw [hU]; exact z))
  have hl : lv_has ls 3 [(0, .ref (ad 0 0)), (1, .int v), (2, .int w)] := hl
  refine lv_aload_n hx hb dX7_likeness_0 rfl (lv_at hl 0 rfl) ?_
  refine lv_aload_n hx hb dX7_likeness_1 rfl (lv_at hl 0 rfl) ?_
  refine lv_iload_n hx hb dX7_likeness_2 rfl (lv_at hl 1 rfl) ?_
  refine ro_V (As := [.int v]) (h0 := ad 0 0) (rest := [.ref (ad 0 0)]) (v := bI (!isInS v (nI 0) (nI (c.R 10 2) - nI 1))) hx hb hml hown hC hS hAb (mX7_isNoLayer l hX v ) kV_X7_203 ⟨rfl, rfl⟩ ⟨Nat.le_of_ble_eq_true rfl, Nat.le_of_ble_eq_true rfl⟩ (hP.recv hC cM_0 rfl) rfl hl (Nat.le_of_ble_eq_true rfl) ⟨show _ ≤ (0 : Nat) by omega, show _ ≤ (0 : Nat) by omega⟩ dX7_likeness_3 ?_
  refine lv_bif_ne (tgt := 17) hx hb dX7_likeness_6 (by decide) (fun c_6 => ?_) (fun c_6 => ?_)
  · skip
    refine lv_iconstN hx hb 1 dX7_likeness_17 (by decide) ?_
    refine lv_goto (tgt := 22) hx hb dX7_likeness_18 (by decide) ?_
    refine lv_iconstN hx hb 1 dX7_likeness_22 (by decide) ?_
    refine mu_V (As := [.int (nI 1), .int (nI 1)]) (h0 := ad 0 0) (rest := []) (v := bI true) hx hb hml hown hC hS hAb (mX7_start_t l hX 1 (show 1 ≤ 1 by first | assumption | omega | decide | (simp only [decide_eq_false_iff_not, decide_eq_true_eq] at *; omega)) (show 1 < 10 by first | assumption | omega | decide | (simp only [decide_eq_false_iff_not, decide_eq_true_eq] at *; omega))) (fun q h => h.elim (hA q) (fun z => hN q (Nat.le_trans hS.1 z))) kV_X7_41 ⟨rfl, rfl⟩ ⟨Nat.le_of_ble_eq_true rfl, Nat.le_of_ble_eq_true rfl⟩ (hP.recv hC cM_0 rfl) rfl hl (Nat.le_of_ble_eq_true rfl) ⟨show 0 + 0 ≤ (0 : Nat) by omega, show 0 + 0 ≤ (0 : Nat) by omega⟩ dX7_likeness_23 (fun H locs hB hS9 hz hk => ?_)
    have hS := hS9
    have hX : PM E c (nI 1) ly L ad H := hB
    obtain ⟨hP, hly, hLb, wfx, ex0, ex1, ex2⟩ := id hX
    refine lv_bif_eq (tgt := 31) hx hb dX7_likeness_26 (by decide) (fun c_26 => ?_) (fun c_26 => ?_)
    · skip
      exact absurd (c_26.symm.trans rfl) (by decide)
    · skip
      refine lv_iconstN hx hb 0 dX7_likeness_29 (by decide) ?_
      exact mu_iret (x := nI 0) hx hb hr hlocks hS (hX) (by first | rfl | (simp [c_6, c_26]; done) | (simp [c_6, c_26]; omega) | (simp_all [c_6, c_26]; done)) dX7_likeness_30
  · skip
    refine lv_aload_n hx hb dX7_likeness_9 rfl (lv_at hl 0 rfl) ?_
    refine lv_iload_n hx hb dX7_likeness_10 rfl (lv_at hl 2 rfl) ?_
    refine ro_V (As := [.int w]) (h0 := ad 0 0) (rest := [.ref (ad 0 0)]) (v := bI (!isInS w (nI 0) (nI (c.R 10 2) - nI 1))) hx hb hml hown hC hS hAb (mX7_isNoLayer l hX w ) kV_X7_203 ⟨rfl, rfl⟩ ⟨Nat.le_of_ble_eq_true rfl, Nat.le_of_ble_eq_true rfl⟩ (hP.recv hC cM_0 rfl) rfl hl (Nat.le_of_ble_eq_true rfl) ⟨show _ ≤ (0 : Nat) by omega, show _ ≤ (0 : Nat) by omega⟩ dX7_likeness_11 ?_
    refine lv_bif_eq (tgt := 21) hx hb dX7_likeness_14 (by decide) (fun c_14 => ?_) (fun c_14 => ?_)
    · skip
      exact absurd hv (by simp at c_6 c_14; simp [c_6, c_14])
    · skip
      refine lv_iconstN hx hb 1 dX7_likeness_17 (by decide) ?_
      refine lv_goto (tgt := 22) hx hb dX7_likeness_18 (by decide) ?_
      refine lv_iconstN hx hb 1 dX7_likeness_22 (by decide) ?_
      refine mu_V (As := [.int (nI 1), .int (nI 1)]) (h0 := ad 0 0) (rest := []) (v := bI true) hx hb hml hown hC hS hAb (mX7_start_t l hX 1 (show 1 ≤ 1 by first | assumption | omega | decide | (simp only [decide_eq_false_iff_not, decide_eq_true_eq] at *; omega)) (show 1 < 10 by first | assumption | omega | decide | (simp only [decide_eq_false_iff_not, decide_eq_true_eq] at *; omega))) (fun q h => h.elim (hA q) (fun z => hN q (Nat.le_trans hS.1 z))) kV_X7_41 ⟨rfl, rfl⟩ ⟨Nat.le_of_ble_eq_true rfl, Nat.le_of_ble_eq_true rfl⟩ (hP.recv hC cM_0 rfl) rfl hl (Nat.le_of_ble_eq_true rfl) ⟨show 0 + 0 ≤ (0 : Nat) by omega, show 0 + 0 ≤ (0 : Nat) by omega⟩ dX7_likeness_23 (fun H locs hB hS9 hz hk => ?_)
      have hS := hS9
      have hX : PM E c (nI 1) ly L ad H := hB
      obtain ⟨hP, hly, hLb, wfx, ex0, ex1, ex2⟩ := id hX
      refine lv_bif_eq (tgt := 31) hx hb dX7_likeness_26 (by decide) (fun c_26 => ?_) (fun c_26 => ?_)
      · skip
        exact absurd (c_26.symm.trans rfl) (by decide)
      · skip
        refine lv_iconstN hx hb 0 dX7_likeness_29 (by decide) ?_
        exact mu_iret (x := nI 0) hx hb hr hlocks hS (hX) (by first | rfl | (simp [c_6, c_14, c_26]; done) | (simp [c_6, c_14, c_26]; omega) | (simp_all [c_6, c_14, c_26]; done)) dX7_likeness_30
set_option maxHeartbeats 4000000 in
set_option maxRecDepth 100000 in
theorem mX7_bestFrom_g (l : Launch) {E : En} {c : Cy} {th : Int32} {ly : Ly} {L : List Nat} {ad : Nat → Nat → Nat} {H0 : Heap} (hX : PM E c th ly L ad H0) (h i u kd : Nat) (hh : h < c.R 10 1) (hi : i < c.R 10 0) (hu1 : 1 ≤ u) (hu : u ≤ 16) (hkd : kd < 4) : MuI l yX7_bestFrom cX7_bestFrom 5 .int (rmk 6 0 0 144) [.ref (ad 0 0), .int (nI h), .int (nI i), .int (nI u), .int (nI kd)] E H0 (bfS c h i u kd) (fun H1 => PM E c (nI 0) ly L ad H1) (cA L H0) 0 0 := by
  obtain ⟨hP, hly, hLb, wf, eq0, eq1, eq2⟩ := id hX
  have wfx := wf
  refine ro_of (by decide) (Nat.le_of_ble_eq_true rfl) ?_
  intro p e s m below meth co ls hx hb hr hml hown hlocks hnm hC hU hl
  have hS : va_S (cA L H0) s.heap H0 [] := by rw [hU]; exact va_S.rf
  have hA : ∀ q, q ∈ L → cA L H0 q := fun q h => Or.inl h
  have hN : ∀ q, s.heap.size ≤ q → cA L H0 q := fun q h => Or.inr (by rw [← hU]; exact h)
  have hAb : ∀ q, cA L H0 q → bA E q := fun q h => h.elim (hLb q) (fun z => Nat.le_trans hC.2.2.2.1 (by rw [hU]; exact z))
  have hl : lv_has ls 5 [(0, .ref (ad 0 0)), (1, .int (nI h)), (2, .int (nI i)), (3, .int (nI u)), (4, .int (nI kd))] := hl
  have gw := wf.sw
  have gs := wf.sh'
  refine lv_aload_n hx hb dX7_bestFrom_0 rfl (lv_at hl 0 rfl) ?_
  refine lv_aload_n hx hb dX7_bestFrom_1 rfl (lv_at hl 0 rfl) ?_
  refine lv_iload_n hx hb dX7_bestFrom_2 rfl (lv_at hl 1 rfl) ?_
  refine ro_V (As := [.int (nI h)]) (h0 := ad 0 0) (rest := [.ref (ad 0 0)]) (v := bI (!isInS (nI h) (nI 0) (nI (c.R 10 1) - nI 1))) hx hb hml hown hC hS hAb (mX7_isNoHand l hX (nI h) ) kV_X7_113 ⟨rfl, rfl⟩ ⟨Nat.le_of_ble_eq_true rfl, Nat.le_of_ble_eq_true rfl⟩ (hP.recv hC cM_0 rfl) rfl hl (Nat.le_of_ble_eq_true rfl) ⟨show _ ≤ (0 : Nat) by omega, show _ ≤ (0 : Nat) by omega⟩ dX7_bestFrom_3 ?_
  refine lv_bif_ne (tgt := 17) hx hb dX7_bestFrom_6 (by decide) (fun c_6 => ?_) (fun c_6 => ?_)
  · skip
    exact absurd (c_6.symm.trans (by rw [isIn_t hh (by have := wf.sw; have := wf.sh'; have := wf.sl; have := wf.nw; have := wf.nh; have := wf.nl; omega)]; rfl : (!isInS (nI h) (nI 0) (nI (c.R 10 1) - nI 1)) = false)) (by decide)
  · skip
    refine lv_aload_n hx hb dX7_bestFrom_9 rfl (lv_at hl 0 rfl) ?_
    refine lv_iload_n hx hb dX7_bestFrom_10 rfl (lv_at hl 2 rfl) ?_
    refine ro_V (As := [.int (nI i)]) (h0 := ad 0 0) (rest := [.ref (ad 0 0)]) (v := bI (!isInS (nI i) (nI 0) (nI (c.R 10 0) - nI 1))) hx hb hml hown hC hS hAb (mX7_isNoWall l hX (nI i) ) kV_X7_56 ⟨rfl, rfl⟩ ⟨Nat.le_of_ble_eq_true rfl, Nat.le_of_ble_eq_true rfl⟩ (hP.recv hC cM_0 rfl) rfl hl (Nat.le_of_ble_eq_true rfl) ⟨show _ ≤ (0 : Nat) by omega, show _ ≤ (0 : Nat) by omega⟩ dX7_bestFrom_11 ?_
    refine lv_bif_eq (tgt := 21) hx hb dX7_bestFrom_14 (by decide) (fun c_14 => ?_) (fun c_14 => ?_)
    · skip
      refine lv_iconstN hx hb 0 dX7_bestFrom_21 (by decide) ?_
      refine lv_iconstN hx hb 1 dX7_bestFrom_22 (by decide) ?_
      refine mu_V (As := [.int (nI 0), .int (nI 1)]) (h0 := ad 0 0) (rest := []) (v := bI false) hx hb hml hown hC hS hAb (mX7_start_f l hX 1 ) (fun q h => h.elim (hA q) (fun z => hN q (Nat.le_trans hS.1 z))) kV_X7_41 ⟨rfl, rfl⟩ ⟨Nat.le_of_ble_eq_true rfl, Nat.le_of_ble_eq_true rfl⟩ (hP.recv hC cM_0 rfl) rfl hl (Nat.le_of_ble_eq_true rfl) ⟨show 0 + 0 ≤ (0 : Nat) by omega, show 0 + 0 ≤ (0 : Nat) by omega⟩ dX7_bestFrom_23 (fun H locs hB hS9 hz hk => ?_)
      have hS := hS9
      have hX : PM E c (nI 0) ly L ad H := hB
      obtain ⟨hP, hly, hLb, wfx, ex0, ex1, ex2⟩ := id hX
      refine lv_bif_ne (tgt := 62) hx hb dX7_bestFrom_26 (by decide) (fun c_26 => ?_) (fun c_26 => ?_)
      · skip
        exact absurd (c_26.symm.trans rfl) (by decide)
      · skip
        refine lv_aload_n hx hb dX7_bestFrom_29 rfl (lv_at hl 0 rfl) ?_
        refine lv_iload_n hx hb dX7_bestFrom_30 rfl (lv_at hl 3 rfl) ?_
        refine lv_iconstN hx hb 1 dX7_bestFrom_31 (by decide) ?_
        refine lv_bipushN hx hb 16 dX7_bestFrom_32 (by decide) ?_
        refine ro_S (As := [.int (nI u), .int (nI 1), .int (nI 16)]) (rest := [.ref (ad 0 0)]) (v := bI (isInS (nI u) (nI 1) (nI 16))) hx hb hml hown hC hS hAb (mX7_isIn l (nI u) (nI 1) (nI 16) ) kS_X7_37 ⟨rfl, rfl⟩ ⟨Nat.le_of_ble_eq_true rfl, Nat.le_of_ble_eq_true rfl⟩ rfl hl (Nat.le_of_ble_eq_true rfl) ⟨show _ ≤ (0 : Nat) by omega, show _ ≤ (0 : Nat) by omega⟩ dX7_bestFrom_34 ?_
        refine lv_bif_eq (tgt := 50) hx hb dX7_bestFrom_37 (by decide) (fun c_37 => ?_) (fun c_37 => ?_)
        · skip
          exact absurd (c_37.symm.trans (isIn_1 hu1 hu (by decide))) (by decide)
        · skip
          refine lv_iload hx hb dX7_bestFrom_40 (lv_at hl 4 rfl) ?_
          refine lv_iconstN hx hb 0 dX7_bestFrom_42 (by decide) ?_
          refine lv_iconstN hx hb 3 dX7_bestFrom_43 (by decide) ?_
          refine ro_S (As := [.int (nI kd), .int (nI 0), .int (nI 3)]) (rest := [.ref (ad 0 0)]) (v := bI (isInS (nI kd) (nI 0) (nI 3))) hx hb hml hown hC hS hAb (mX7_isIn l (nI kd) (nI 0) (nI 3) ) kS_X7_37 ⟨rfl, rfl⟩ ⟨Nat.le_of_ble_eq_true rfl, Nat.le_of_ble_eq_true rfl⟩ rfl hl (Nat.le_of_ble_eq_true rfl) ⟨show _ ≤ (0 : Nat) by omega, show _ ≤ (0 : Nat) by omega⟩ dX7_bestFrom_44 ?_
          refine lv_bif_ne (tgt := 54) hx hb dX7_bestFrom_47 (by decide) (fun c_47 => ?_) (fun c_47 => ?_)
          · skip
            refine lv_iconstN hx hb 0 dX7_bestFrom_54 (by decide) ?_
            refine lv_iconstN hx hb 2 dX7_bestFrom_55 (by decide) ?_
            refine mu_V (As := [.int (nI 0), .int (nI 2)]) (h0 := ad 0 0) (rest := []) (v := bI false) hx hb hml hown hC hS hAb (mX7_refuse_f l hX 2 ) (fun q h => h.elim (hA q) (fun z => hN q (Nat.le_trans hS.1 z))) kV_X7_29 ⟨rfl, rfl⟩ ⟨Nat.le_of_ble_eq_true rfl, Nat.le_of_ble_eq_true rfl⟩ (hP.recv hC cM_0 rfl) rfl hl (Nat.le_of_ble_eq_true rfl) ⟨show 0 + 0 ≤ (0 : Nat) by omega, show 0 + 0 ≤ (0 : Nat) by omega⟩ dX7_bestFrom_56 (fun H locs hB hS9 hz hk => ?_)
            have hS := hS9
            have hX : PM E c (nI 0) ly L ad H := hB
            obtain ⟨hP, hly, hLb, wfx, ex0, ex1, ex2⟩ := id hX
            refine lv_bif_eq (tgt := 66) hx hb dX7_bestFrom_59 (by decide) (fun c_59 => ?_) (fun c_59 => ?_)
            · skip
              refine lv_aload_n hx hb dX7_bestFrom_66 rfl (lv_at hl 0 rfl) ?_
              refine lv_iload_n hx hb dX7_bestFrom_67 rfl (lv_at hl 1 rfl) ?_
              refine lv_iload_n hx hb dX7_bestFrom_68 rfl (lv_at hl 2 rfl) ?_
              refine lv_iload_n hx hb dX7_bestFrom_69 rfl (lv_at hl 3 rfl) ?_
              refine lv_iload hx hb dX7_bestFrom_70 (lv_at hl 4 rfl) ?_
              refine ro_V (As := [.int (nI h), .int (nI i), .int (nI u), .int (nI kd)]) (h0 := ad 0 0) (rest := []) (v := bfS c h i u kd) hx hb hml hown hC hS hAb (mX7_bestFromNow l hX h i u kd (show h < c.R 11 1 by first | assumption | omega | decide | (simp only [decide_eq_false_iff_not, decide_eq_true_eq] at *; omega)) (show i < c.R 11 0 by first | assumption | omega | decide | (simp only [decide_eq_false_iff_not, decide_eq_true_eq] at *; omega)) (show 1 ≤ u by first | assumption | omega | decide | (simp only [decide_eq_false_iff_not, decide_eq_true_eq] at *; omega)) (show u ≤ 16 by first | assumption | omega | decide | (simp only [decide_eq_false_iff_not, decide_eq_true_eq] at *; omega)) (show kd < 4 by first | assumption | omega | decide | (simp only [decide_eq_false_iff_not, decide_eq_true_eq] at *; omega))) kV_X7_267 ⟨rfl, rfl⟩ ⟨Nat.le_of_ble_eq_true rfl, Nat.le_of_ble_eq_true rfl⟩ (hP.recv hC cM_0 rfl) rfl hl (Nat.le_of_ble_eq_true rfl) ⟨show _ ≤ (0 : Nat) by omega, show _ ≤ (0 : Nat) by omega⟩ dX7_bestFrom_72 ?_
              exact mu_iret (x := bfS c h i u kd) hx hb hr hlocks hS (hX) (by first | rfl | (simp [c_6, c_14, c_26, c_37, c_47, c_59]; done) | (simp [c_6, c_14, c_26, c_37, c_47, c_59]; omega) | (simp_all [c_6, c_14, c_26, c_37, c_47, c_59]; done)) dX7_bestFrom_75
            · skip
              exact absurd (c_59.symm.trans rfl) (by decide)
          · skip
            exact absurd (c_47.symm.trans (isIn_le (by omega) (by decide))) (by decide)
    · skip
      exact absurd (c_14.symm.trans (by rw [isIn_t hi (by have := wf.sw; have := wf.sh'; have := wf.sl; have := wf.nw; have := wf.nh; have := wf.nl; omega)]; rfl : (!isInS (nI i) (nI 0) (nI (c.R 10 0) - nI 1)) = false)) (by decide)
set_option maxHeartbeats 4000000 in
set_option maxRecDepth 100000 in
theorem mX7_bestFrom_b1 (l : Launch) {E : En} {c : Cy} {th : Int32} {ly : Ly} {L : List Nat} {ad : Nat → Nat → Nat} {H0 : Heap} (hX : PM E c th ly L ad H0) (v w u kd : Int32) (hv : (isInS v (nI 0) (nI (c.R 10 1) - nI 1) && isInS w (nI 0) (nI (c.R 10 0) - nI 1)) = false) : MuI l yX7_bestFrom cX7_bestFrom 5 .int (rmk 2 0 0 44) [.ref (ad 0 0), .int v, .int w, .int u, .int kd] E H0 (nI 0) (fun H1 => PM E c (nI 1) ly L ad H1) (cA L H0) 0 0 := by
  obtain ⟨hP, hly, hLb, wf, eq0, eq1, eq2⟩ := id hX
  have wfx := wf
  refine ro_of (by decide) (Nat.le_of_ble_eq_true rfl) ?_
  intro p e s m below meth co ls hx hb hr hml hown hlocks hnm hC hU hl
  have hS : va_S (cA L H0) s.heap H0 [] := by rw [hU]; exact va_S.rf
  have hA : ∀ q, q ∈ L → cA L H0 q := fun q h => Or.inl h
  have hN : ∀ q, s.heap.size ≤ q → cA L H0 q := fun q h => Or.inr (by rw [← hU]; exact h)
  have hAb : ∀ q, cA L H0 q → bA E q := fun q h => h.elim (hLb q) (fun z => Nat.le_trans hC.2.2.2.1 (by rw [hU]; exact z))
  have hl : lv_has ls 5 [(0, .ref (ad 0 0)), (1, .int v), (2, .int w), (3, .int u), (4, .int kd)] := hl
  refine lv_aload_n hx hb dX7_bestFrom_0 rfl (lv_at hl 0 rfl) ?_
  refine lv_aload_n hx hb dX7_bestFrom_1 rfl (lv_at hl 0 rfl) ?_
  refine lv_iload_n hx hb dX7_bestFrom_2 rfl (lv_at hl 1 rfl) ?_
  refine ro_V (As := [.int v]) (h0 := ad 0 0) (rest := [.ref (ad 0 0)]) (v := bI (!isInS v (nI 0) (nI (c.R 10 1) - nI 1))) hx hb hml hown hC hS hAb (mX7_isNoHand l hX v ) kV_X7_113 ⟨rfl, rfl⟩ ⟨Nat.le_of_ble_eq_true rfl, Nat.le_of_ble_eq_true rfl⟩ (hP.recv hC cM_0 rfl) rfl hl (Nat.le_of_ble_eq_true rfl) ⟨show _ ≤ (0 : Nat) by omega, show _ ≤ (0 : Nat) by omega⟩ dX7_bestFrom_3 ?_
  refine lv_bif_ne (tgt := 17) hx hb dX7_bestFrom_6 (by decide) (fun c_6 => ?_) (fun c_6 => ?_)
  · skip
    refine lv_iconstN hx hb 1 dX7_bestFrom_17 (by decide) ?_
    refine lv_goto (tgt := 22) hx hb dX7_bestFrom_18 (by decide) ?_
    refine lv_iconstN hx hb 1 dX7_bestFrom_22 (by decide) ?_
    refine mu_V (As := [.int (nI 1), .int (nI 1)]) (h0 := ad 0 0) (rest := []) (v := bI true) hx hb hml hown hC hS hAb (mX7_start_t l hX 1 (show 1 ≤ 1 by first | assumption | omega | decide | (simp only [decide_eq_false_iff_not, decide_eq_true_eq] at *; omega)) (show 1 < 10 by first | assumption | omega | decide | (simp only [decide_eq_false_iff_not, decide_eq_true_eq] at *; omega))) (fun q h => h.elim (hA q) (fun z => hN q (Nat.le_trans hS.1 z))) kV_X7_41 ⟨rfl, rfl⟩ ⟨Nat.le_of_ble_eq_true rfl, Nat.le_of_ble_eq_true rfl⟩ (hP.recv hC cM_0 rfl) rfl hl (Nat.le_of_ble_eq_true rfl) ⟨show 0 + 0 ≤ (0 : Nat) by omega, show 0 + 0 ≤ (0 : Nat) by omega⟩ dX7_bestFrom_23 (fun H locs hB hS9 hz hk => ?_)
    have hS := hS9
    have hX : PM E c (nI 1) ly L ad H := hB
    obtain ⟨hP, hly, hLb, wfx, ex0, ex1, ex2⟩ := id hX
    refine lv_bif_ne (tgt := 62) hx hb dX7_bestFrom_26 (by decide) (fun c_26 => ?_) (fun c_26 => ?_)
    · skip
      refine lv_iconstN hx hb 0 dX7_bestFrom_62 (by decide) ?_
      refine lv_goto (tgt := 75) hx hb dX7_bestFrom_63 (by decide) ?_
      exact mu_iret (x := nI 0) hx hb hr hlocks hS (hX) (by first | rfl | (simp [c_6, c_26]; done) | (simp [c_6, c_26]; omega) | (simp_all [c_6, c_26]; done)) dX7_bestFrom_75
    · skip
      exact absurd (c_26.symm.trans rfl) (by decide)
  · skip
    refine lv_aload_n hx hb dX7_bestFrom_9 rfl (lv_at hl 0 rfl) ?_
    refine lv_iload_n hx hb dX7_bestFrom_10 rfl (lv_at hl 2 rfl) ?_
    refine ro_V (As := [.int w]) (h0 := ad 0 0) (rest := [.ref (ad 0 0)]) (v := bI (!isInS w (nI 0) (nI (c.R 10 0) - nI 1))) hx hb hml hown hC hS hAb (mX7_isNoWall l hX w ) kV_X7_56 ⟨rfl, rfl⟩ ⟨Nat.le_of_ble_eq_true rfl, Nat.le_of_ble_eq_true rfl⟩ (hP.recv hC cM_0 rfl) rfl hl (Nat.le_of_ble_eq_true rfl) ⟨show _ ≤ (0 : Nat) by omega, show _ ≤ (0 : Nat) by omega⟩ dX7_bestFrom_11 ?_
    refine lv_bif_eq (tgt := 21) hx hb dX7_bestFrom_14 (by decide) (fun c_14 => ?_) (fun c_14 => ?_)
    · skip
      exact absurd hv (by simp at c_6 c_14; simp [c_6, c_14])
    · skip
      refine lv_iconstN hx hb 1 dX7_bestFrom_17 (by decide) ?_
      refine lv_goto (tgt := 22) hx hb dX7_bestFrom_18 (by decide) ?_
      refine lv_iconstN hx hb 1 dX7_bestFrom_22 (by decide) ?_
      refine mu_V (As := [.int (nI 1), .int (nI 1)]) (h0 := ad 0 0) (rest := []) (v := bI true) hx hb hml hown hC hS hAb (mX7_start_t l hX 1 (show 1 ≤ 1 by first | assumption | omega | decide | (simp only [decide_eq_false_iff_not, decide_eq_true_eq] at *; omega)) (show 1 < 10 by first | assumption | omega | decide | (simp only [decide_eq_false_iff_not, decide_eq_true_eq] at *; omega))) (fun q h => h.elim (hA q) (fun z => hN q (Nat.le_trans hS.1 z))) kV_X7_41 ⟨rfl, rfl⟩ ⟨Nat.le_of_ble_eq_true rfl, Nat.le_of_ble_eq_true rfl⟩ (hP.recv hC cM_0 rfl) rfl hl (Nat.le_of_ble_eq_true rfl) ⟨show 0 + 0 ≤ (0 : Nat) by omega, show 0 + 0 ≤ (0 : Nat) by omega⟩ dX7_bestFrom_23 (fun H locs hB hS9 hz hk => ?_)
      have hS := hS9
      have hX : PM E c (nI 1) ly L ad H := hB
      obtain ⟨hP, hly, hLb, wfx, ex0, ex1, ex2⟩ := id hX
      refine lv_bif_ne (tgt := 62) hx hb dX7_bestFrom_26 (by decide) (fun c_26 => ?_) (fun c_26 => ?_)
      · skip
        refine lv_iconstN hx hb 0 dX7_bestFrom_62 (by decide) ?_
        refine lv_goto (tgt := 75) hx hb dX7_bestFrom_63 (by decide) ?_
        exact mu_iret (x := nI 0) hx hb hr hlocks hS (hX) (by first | rfl | (simp [c_6, c_14, c_26]; done) | (simp [c_6, c_14, c_26]; omega) | (simp_all [c_6, c_14, c_26]; done)) dX7_bestFrom_75
      · skip
        exact absurd (c_26.symm.trans rfl) (by decide)
set_option maxHeartbeats 4000000 in
set_option maxRecDepth 100000 in
theorem mX7_bestFrom_b2 (l : Launch) {E : En} {c : Cy} {th : Int32} {ly : Ly} {L : List Nat} {ad : Nat → Nat → Nat} {H0 : Heap} (hX : PM E c th ly L ad H0) (h i : Nat) (u kd : Int32) (hh : h < c.R 10 1) (hi : i < c.R 10 0) (hu : (isInS u (nI 1) (nI 16) && isInS kd (nI 0) (nI 3)) = false) : MuI l yX7_bestFrom cX7_bestFrom 5 .int (rmk 2 0 0 44) [.ref (ad 0 0), .int (nI h), .int (nI i), .int u, .int kd] E H0 (nI 0) (fun H1 => PM E c (nI 2) ly L ad H1) (cA L H0) 0 0 := by
  obtain ⟨hP, hly, hLb, wf, eq0, eq1, eq2⟩ := id hX
  have wfx := wf
  refine ro_of (by decide) (Nat.le_of_ble_eq_true rfl) ?_
  intro p e s m below meth co ls hx hb hr hml hown hlocks hnm hC hU hl
  have hS : va_S (cA L H0) s.heap H0 [] := by rw [hU]; exact va_S.rf
  have hA : ∀ q, q ∈ L → cA L H0 q := fun q h => Or.inl h
  have hN : ∀ q, s.heap.size ≤ q → cA L H0 q := fun q h => Or.inr (by rw [← hU]; exact h)
  have hAb : ∀ q, cA L H0 q → bA E q := fun q h => h.elim (hLb q) (fun z => Nat.le_trans hC.2.2.2.1 (by rw [hU]; exact z))
  have hl : lv_has ls 5 [(0, .ref (ad 0 0)), (1, .int (nI h)), (2, .int (nI i)), (3, .int u), (4, .int kd)] := hl
  refine lv_aload_n hx hb dX7_bestFrom_0 rfl (lv_at hl 0 rfl) ?_
  refine lv_aload_n hx hb dX7_bestFrom_1 rfl (lv_at hl 0 rfl) ?_
  refine lv_iload_n hx hb dX7_bestFrom_2 rfl (lv_at hl 1 rfl) ?_
  refine ro_V (As := [.int (nI h)]) (h0 := ad 0 0) (rest := [.ref (ad 0 0)]) (v := bI (!isInS (nI h) (nI 0) (nI (c.R 10 1) - nI 1))) hx hb hml hown hC hS hAb (mX7_isNoHand l hX (nI h) ) kV_X7_113 ⟨rfl, rfl⟩ ⟨Nat.le_of_ble_eq_true rfl, Nat.le_of_ble_eq_true rfl⟩ (hP.recv hC cM_0 rfl) rfl hl (Nat.le_of_ble_eq_true rfl) ⟨show _ ≤ (0 : Nat) by omega, show _ ≤ (0 : Nat) by omega⟩ dX7_bestFrom_3 ?_
  refine lv_bif_ne (tgt := 17) hx hb dX7_bestFrom_6 (by decide) (fun c_6 => ?_) (fun c_6 => ?_)
  · skip
    exact absurd (c_6.symm.trans (by rw [isIn_t hh (by have := wf.sw; have := wf.sh'; have := wf.sl; have := wf.nw; have := wf.nh; have := wf.nl; omega)]; rfl : (!isInS (nI h) (nI 0) (nI (c.R 10 1) - nI 1)) = false)) (by decide)
  · skip
    refine lv_aload_n hx hb dX7_bestFrom_9 rfl (lv_at hl 0 rfl) ?_
    refine lv_iload_n hx hb dX7_bestFrom_10 rfl (lv_at hl 2 rfl) ?_
    refine ro_V (As := [.int (nI i)]) (h0 := ad 0 0) (rest := [.ref (ad 0 0)]) (v := bI (!isInS (nI i) (nI 0) (nI (c.R 10 0) - nI 1))) hx hb hml hown hC hS hAb (mX7_isNoWall l hX (nI i) ) kV_X7_56 ⟨rfl, rfl⟩ ⟨Nat.le_of_ble_eq_true rfl, Nat.le_of_ble_eq_true rfl⟩ (hP.recv hC cM_0 rfl) rfl hl (Nat.le_of_ble_eq_true rfl) ⟨show _ ≤ (0 : Nat) by omega, show _ ≤ (0 : Nat) by omega⟩ dX7_bestFrom_11 ?_
    refine lv_bif_eq (tgt := 21) hx hb dX7_bestFrom_14 (by decide) (fun c_14 => ?_) (fun c_14 => ?_)
    · skip
      refine lv_iconstN hx hb 0 dX7_bestFrom_21 (by decide) ?_
      refine lv_iconstN hx hb 1 dX7_bestFrom_22 (by decide) ?_
      refine mu_V (As := [.int (nI 0), .int (nI 1)]) (h0 := ad 0 0) (rest := []) (v := bI false) hx hb hml hown hC hS hAb (mX7_start_f l hX 1 ) (fun q h => h.elim (hA q) (fun z => hN q (Nat.le_trans hS.1 z))) kV_X7_41 ⟨rfl, rfl⟩ ⟨Nat.le_of_ble_eq_true rfl, Nat.le_of_ble_eq_true rfl⟩ (hP.recv hC cM_0 rfl) rfl hl (Nat.le_of_ble_eq_true rfl) ⟨show 0 + 0 ≤ (0 : Nat) by omega, show 0 + 0 ≤ (0 : Nat) by omega⟩ dX7_bestFrom_23 (fun H locs hB hS9 hz hk => ?_)
      have hS := hS9
      have hX : PM E c (nI 0) ly L ad H := hB
      obtain ⟨hP, hly, hLb, wfx, ex0, ex1, ex2⟩ := id hX
      refine lv_bif_ne (tgt := 62) hx hb dX7_bestFrom_26 (by decide) (fun c_26 => ?_) (fun c_26 => ?_)
      · skip
        exact absurd (c_26.symm.trans rfl) (by decide)
      · skip
        refine lv_aload_n hx hb dX7_bestFrom_29 rfl (lv_at hl 0 rfl) ?_
        refine lv_iload_n hx hb dX7_bestFrom_30 rfl (lv_at hl 3 rfl) ?_
        refine lv_iconstN hx hb 1 dX7_bestFrom_31 (by decide) ?_
        refine lv_bipushN hx hb 16 dX7_bestFrom_32 (by decide) ?_
        refine ro_S (As := [.int u, .int (nI 1), .int (nI 16)]) (rest := [.ref (ad 0 0)]) (v := bI (isInS u (nI 1) (nI 16))) hx hb hml hown hC hS hAb (mX7_isIn l u (nI 1) (nI 16) ) kS_X7_37 ⟨rfl, rfl⟩ ⟨Nat.le_of_ble_eq_true rfl, Nat.le_of_ble_eq_true rfl⟩ rfl hl (Nat.le_of_ble_eq_true rfl) ⟨show _ ≤ (0 : Nat) by omega, show _ ≤ (0 : Nat) by omega⟩ dX7_bestFrom_34 ?_
        refine lv_bif_eq (tgt := 50) hx hb dX7_bestFrom_37 (by decide) (fun c_37 => ?_) (fun c_37 => ?_)
        · skip
          refine lv_iconstN hx hb 1 dX7_bestFrom_50 (by decide) ?_
          refine lv_goto (tgt := 55) hx hb dX7_bestFrom_51 (by decide) ?_
          refine lv_iconstN hx hb 2 dX7_bestFrom_55 (by decide) ?_
          refine mu_V (As := [.int (nI 1), .int (nI 2)]) (h0 := ad 0 0) (rest := []) (v := bI true) hx hb hml hown hC hS hAb (mX7_refuse_t l hX 2 (show 1 ≤ 2 by first | assumption | omega | decide | (simp only [decide_eq_false_iff_not, decide_eq_true_eq] at *; omega)) (show 2 < 10 by first | assumption | omega | decide | (simp only [decide_eq_false_iff_not, decide_eq_true_eq] at *; omega))) (fun q h => h.elim (hA q) (fun z => hN q (Nat.le_trans hS.1 z))) kV_X7_29 ⟨rfl, rfl⟩ ⟨Nat.le_of_ble_eq_true rfl, Nat.le_of_ble_eq_true rfl⟩ (hP.recv hC cM_0 rfl) rfl hl (Nat.le_of_ble_eq_true rfl) ⟨show 0 + 0 ≤ (0 : Nat) by omega, show 0 + 0 ≤ (0 : Nat) by omega⟩ dX7_bestFrom_56 (fun H locs hB hS9 hz hk => ?_)
          have hS := hS9
          have hX : PM E c (nI 2) ly L ad H := hB
          obtain ⟨hP, hly, hLb, wfx, ex0, ex1, ex2⟩ := id hX
          refine lv_bif_eq (tgt := 66) hx hb dX7_bestFrom_59 (by decide) (fun c_59 => ?_) (fun c_59 => ?_)
          · skip
            exact absurd (c_59.symm.trans rfl) (by decide)
          · skip
            refine lv_iconstN hx hb 0 dX7_bestFrom_62 (by decide) ?_
            refine lv_goto (tgt := 75) hx hb dX7_bestFrom_63 (by decide) ?_
            exact mu_iret (x := nI 0) hx hb hr hlocks hS (hX) (by first | rfl | (simp [c_6, c_14, c_26, c_37, c_59]; done) | (simp [c_6, c_14, c_26, c_37, c_59]; omega) | (simp_all [c_6, c_14, c_26, c_37, c_59]; done)) dX7_bestFrom_75
        · skip
          refine lv_iload hx hb dX7_bestFrom_40 (lv_at hl 4 rfl) ?_
          refine lv_iconstN hx hb 0 dX7_bestFrom_42 (by decide) ?_
          refine lv_iconstN hx hb 3 dX7_bestFrom_43 (by decide) ?_
          refine ro_S (As := [.int kd, .int (nI 0), .int (nI 3)]) (rest := [.ref (ad 0 0)]) (v := bI (isInS kd (nI 0) (nI 3))) hx hb hml hown hC hS hAb (mX7_isIn l kd (nI 0) (nI 3) ) kS_X7_37 ⟨rfl, rfl⟩ ⟨Nat.le_of_ble_eq_true rfl, Nat.le_of_ble_eq_true rfl⟩ rfl hl (Nat.le_of_ble_eq_true rfl) ⟨show _ ≤ (0 : Nat) by omega, show _ ≤ (0 : Nat) by omega⟩ dX7_bestFrom_44 ?_
          refine lv_bif_ne (tgt := 54) hx hb dX7_bestFrom_47 (by decide) (fun c_47 => ?_) (fun c_47 => ?_)
          · skip
            exact absurd hu (by simp [c_6, c_14, c_26, c_37, c_47])
          · skip
            refine lv_iconstN hx hb 1 dX7_bestFrom_50 (by decide) ?_
            refine lv_goto (tgt := 55) hx hb dX7_bestFrom_51 (by decide) ?_
            refine lv_iconstN hx hb 2 dX7_bestFrom_55 (by decide) ?_
            refine mu_V (As := [.int (nI 1), .int (nI 2)]) (h0 := ad 0 0) (rest := []) (v := bI true) hx hb hml hown hC hS hAb (mX7_refuse_t l hX 2 (show 1 ≤ 2 by first | assumption | omega | decide | (simp only [decide_eq_false_iff_not, decide_eq_true_eq] at *; omega)) (show 2 < 10 by first | assumption | omega | decide | (simp only [decide_eq_false_iff_not, decide_eq_true_eq] at *; omega))) (fun q h => h.elim (hA q) (fun z => hN q (Nat.le_trans hS.1 z))) kV_X7_29 ⟨rfl, rfl⟩ ⟨Nat.le_of_ble_eq_true rfl, Nat.le_of_ble_eq_true rfl⟩ (hP.recv hC cM_0 rfl) rfl hl (Nat.le_of_ble_eq_true rfl) ⟨show 0 + 0 ≤ (0 : Nat) by omega, show 0 + 0 ≤ (0 : Nat) by omega⟩ dX7_bestFrom_56 (fun H locs hB hS9 hz hk => ?_)
            have hS := hS9
            have hX : PM E c (nI 2) ly L ad H := hB
            obtain ⟨hP, hly, hLb, wfx, ex0, ex1, ex2⟩ := id hX
            refine lv_bif_eq (tgt := 66) hx hb dX7_bestFrom_59 (by decide) (fun c_59 => ?_) (fun c_59 => ?_)
            · skip
              exact absurd (c_59.symm.trans rfl) (by decide)
            · skip
              refine lv_iconstN hx hb 0 dX7_bestFrom_62 (by decide) ?_
              refine lv_goto (tgt := 75) hx hb dX7_bestFrom_63 (by decide) ?_
              exact mu_iret (x := nI 0) hx hb hr hlocks hS (hX) (by first | rfl | (simp [c_6, c_14, c_26, c_37, c_47, c_59]; done) | (simp [c_6, c_14, c_26, c_37, c_47, c_59]; omega) | (simp_all [c_6, c_14, c_26, c_37, c_47, c_59]; done)) dX7_bestFrom_75
    · skip
      exact absurd (c_14.symm.trans (by rw [isIn_t hi (by have := wf.sw; have := wf.sh'; have := wf.sl; have := wf.nw; have := wf.nh; have := wf.nl; omega)]; rfl : (!isInS (nI i) (nI 0) (nI (c.R 10 0) - nI 1)) = false)) (by decide)
set_option maxHeartbeats 4000000 in
set_option maxRecDepth 100000 in
theorem mX7_wouldWrong_g (l : Launch) {E : En} {c : Cy} {th : Int32} {ly : Ly} {L : List Nat} {ad : Nat → Nat → Nat} {H0 : Heap} (hX : PM E c th ly L ad H0) (h i f u kd : Nat) (hh : h < c.R 10 1) (hi : i < c.R 10 0) (hf : f + u ≤ c.R 1 i) (hu : 1 ≤ u) (hkd : kd < 4) : MuI l yX7_wouldWrong cX7_wouldWrong 6 .int (rmk 5 0 0 117) [.ref (ad 0 0), .int (nI h), .int (nI i), .int (nI f), .int (nI u), .int (nI kd)] E H0 (nI (cwrS c h i f u kd)) (fun H1 => PM E c (nI 0) ly L ad H1) (cA L H0) 0 0 := by
  obtain ⟨hP, hly, hLb, wf, eq0, eq1, eq2⟩ := id hX
  have wfx := wf
  refine ro_of (by decide) (Nat.le_of_ble_eq_true rfl) ?_
  intro p e s m below meth co ls hx hb hr hml hown hlocks hnm hC hU hl
  have hS : va_S (cA L H0) s.heap H0 [] := by rw [hU]; exact va_S.rf
  have hA : ∀ q, q ∈ L → cA L H0 q := fun q h => Or.inl h
  have hN : ∀ q, s.heap.size ≤ q → cA L H0 q := fun q h => Or.inr (by rw [← hU]; exact h)
  have hAb : ∀ q, cA L H0 q → bA E q := fun q h => h.elim (hLb q) (fun z => Nat.le_trans hC.2.2.2.1 (by rw [hU]; exact z))
  have hl : lv_has ls 6 [(0, .ref (ad 0 0)), (1, .int (nI h)), (2, .int (nI i)), (3, .int (nI f)), (4, .int (nI u)), (5, .int (nI kd))] := hl
  have gw := wf.sw
  have gs := wf.sh'
  refine lv_aload_n hx hb dX7_wouldWrong_0 rfl (lv_at hl 0 rfl) ?_
  refine lv_aload_n hx hb dX7_wouldWrong_1 rfl (lv_at hl 0 rfl) ?_
  refine lv_iload_n hx hb dX7_wouldWrong_2 rfl (lv_at hl 1 rfl) ?_
  refine ro_V (As := [.int (nI h)]) (h0 := ad 0 0) (rest := [.ref (ad 0 0)]) (v := bI (!isInS (nI h) (nI 0) (nI (c.R 10 1) - nI 1))) hx hb hml hown hC hS hAb (mX7_isNoHand l hX (nI h) ) kV_X7_113 ⟨rfl, rfl⟩ ⟨Nat.le_of_ble_eq_true rfl, Nat.le_of_ble_eq_true rfl⟩ (hP.recv hC cM_0 rfl) rfl hl (Nat.le_of_ble_eq_true rfl) ⟨show _ ≤ (0 : Nat) by omega, show _ ≤ (0 : Nat) by omega⟩ dX7_wouldWrong_3 ?_
  refine lv_bif_ne (tgt := 17) hx hb dX7_wouldWrong_6 (by decide) (fun c_6 => ?_) (fun c_6 => ?_)
  · skip
    exact absurd (c_6.symm.trans (by rw [isIn_t hh (by have := wf.sw; have := wf.sh'; have := wf.sl; have := wf.nw; have := wf.nh; have := wf.nl; omega)]; rfl : (!isInS (nI h) (nI 0) (nI (c.R 10 1) - nI 1)) = false)) (by decide)
  · skip
    refine lv_aload_n hx hb dX7_wouldWrong_9 rfl (lv_at hl 0 rfl) ?_
    refine lv_iload_n hx hb dX7_wouldWrong_10 rfl (lv_at hl 2 rfl) ?_
    refine ro_V (As := [.int (nI i)]) (h0 := ad 0 0) (rest := [.ref (ad 0 0)]) (v := bI (!isInS (nI i) (nI 0) (nI (c.R 10 0) - nI 1))) hx hb hml hown hC hS hAb (mX7_isNoWall l hX (nI i) ) kV_X7_56 ⟨rfl, rfl⟩ ⟨Nat.le_of_ble_eq_true rfl, Nat.le_of_ble_eq_true rfl⟩ (hP.recv hC cM_0 rfl) rfl hl (Nat.le_of_ble_eq_true rfl) ⟨show _ ≤ (0 : Nat) by omega, show _ ≤ (0 : Nat) by omega⟩ dX7_wouldWrong_11 ?_
    refine lv_bif_eq (tgt := 21) hx hb dX7_wouldWrong_14 (by decide) (fun c_14 => ?_) (fun c_14 => ?_)
    · skip
      refine lv_iconstN hx hb 0 dX7_wouldWrong_21 (by decide) ?_
      refine lv_iconstN hx hb 1 dX7_wouldWrong_22 (by decide) ?_
      refine mu_V (As := [.int (nI 0), .int (nI 1)]) (h0 := ad 0 0) (rest := []) (v := bI false) hx hb hml hown hC hS hAb (mX7_start_f l hX 1 ) (fun q h => h.elim (hA q) (fun z => hN q (Nat.le_trans hS.1 z))) kV_X7_41 ⟨rfl, rfl⟩ ⟨Nat.le_of_ble_eq_true rfl, Nat.le_of_ble_eq_true rfl⟩ (hP.recv hC cM_0 rfl) rfl hl (Nat.le_of_ble_eq_true rfl) ⟨show 0 + 0 ≤ (0 : Nat) by omega, show 0 + 0 ≤ (0 : Nat) by omega⟩ dX7_wouldWrong_23 (fun H locs hB hS9 hz hk => ?_)
      have hS := hS9
      have hX : PM E c (nI 0) ly L ad H := hB
      obtain ⟨hP, hly, hLb, wfx, ex0, ex1, ex2⟩ := id hX
      refine lv_bif_ne (tgt := 63) hx hb dX7_wouldWrong_26 (by decide) (fun c_26 => ?_) (fun c_26 => ?_)
      · skip
        exact absurd (c_26.symm.trans rfl) (by decide)
      · skip
        refine lv_aload_n hx hb dX7_wouldWrong_29 rfl (lv_at hl 0 rfl) ?_
        refine lv_aload_n hx hb dX7_wouldWrong_30 rfl (lv_at hl 0 rfl) ?_
        refine lv_iload_n hx hb dX7_wouldWrong_31 rfl (lv_at hl 2 rfl) ?_
        refine lv_iload_n hx hb dX7_wouldWrong_32 rfl (lv_at hl 3 rfl) ?_
        refine lv_iload hx hb dX7_wouldWrong_33 (lv_at hl 4 rfl) ?_
        refine ro_V (As := [.int (nI i), .int (nI f), .int (nI u)]) (h0 := ad 0 0) (rest := [.ref (ad 0 0)]) (v := bI (npS c i (nI f) (nI u))) hx hb hml hown hC hS hAb (mX7_isNoPlace l hX i (nI f) (nI u) (show i < c.R 11 0 by first | assumption | omega | decide | (simp only [decide_eq_false_iff_not, decide_eq_true_eq] at *; omega))) kV_X7_116 ⟨rfl, rfl⟩ ⟨Nat.le_of_ble_eq_true rfl, Nat.le_of_ble_eq_true rfl⟩ (hP.recv hC cM_0 rfl) rfl hl (Nat.le_of_ble_eq_true rfl) ⟨show _ ≤ (0 : Nat) by omega, show _ ≤ (0 : Nat) by omega⟩ dX7_wouldWrong_35 ?_
        refine lv_bif_ne (tgt := 51) hx hb dX7_wouldWrong_38 (by decide) (fun c_38 => ?_) (fun c_38 => ?_)
        · skip
          exact absurd (c_38.symm.trans (by rw [np_has wf (by have := wf.sw; omega), has_t wf (by have := wf.sw; omega) hf hu]; rfl : npS c i (nI f) (nI u) = false)) (by decide)
        · skip
          refine lv_iload hx hb dX7_wouldWrong_41 (lv_at hl 5 rfl) ?_
          refine lv_iconstN hx hb 0 dX7_wouldWrong_43 (by decide) ?_
          refine lv_iconstN hx hb 3 dX7_wouldWrong_44 (by decide) ?_
          refine ro_S (As := [.int (nI kd), .int (nI 0), .int (nI 3)]) (rest := [.ref (ad 0 0)]) (v := bI (isInS (nI kd) (nI 0) (nI 3))) hx hb hml hown hC hS hAb (mX7_isIn l (nI kd) (nI 0) (nI 3) ) kS_X7_37 ⟨rfl, rfl⟩ ⟨Nat.le_of_ble_eq_true rfl, Nat.le_of_ble_eq_true rfl⟩ rfl hl (Nat.le_of_ble_eq_true rfl) ⟨show _ ≤ (0 : Nat) by omega, show _ ≤ (0 : Nat) by omega⟩ dX7_wouldWrong_45 ?_
          refine lv_bif_ne (tgt := 55) hx hb dX7_wouldWrong_48 (by decide) (fun c_48 => ?_) (fun c_48 => ?_)
          · skip
            refine lv_iconstN hx hb 0 dX7_wouldWrong_55 (by decide) ?_
            refine lv_iconstN hx hb 2 dX7_wouldWrong_56 (by decide) ?_
            refine mu_V (As := [.int (nI 0), .int (nI 2)]) (h0 := ad 0 0) (rest := []) (v := bI false) hx hb hml hown hC hS hAb (mX7_refuse_f l hX 2 ) (fun q h => h.elim (hA q) (fun z => hN q (Nat.le_trans hS.1 z))) kV_X7_29 ⟨rfl, rfl⟩ ⟨Nat.le_of_ble_eq_true rfl, Nat.le_of_ble_eq_true rfl⟩ (hP.recv hC cM_0 rfl) rfl hl (Nat.le_of_ble_eq_true rfl) ⟨show 0 + 0 ≤ (0 : Nat) by omega, show 0 + 0 ≤ (0 : Nat) by omega⟩ dX7_wouldWrong_57 (fun H locs hB hS9 hz hk => ?_)
            have hS := hS9
            have hX : PM E c (nI 0) ly L ad H := hB
            obtain ⟨hP, hly, hLb, wfx, ex0, ex1, ex2⟩ := id hX
            refine lv_bif_eq (tgt := 67) hx hb dX7_wouldWrong_60 (by decide) (fun c_60 => ?_) (fun c_60 => ?_)
            · skip
              refine lv_aload_n hx hb dX7_wouldWrong_67 rfl (lv_at hl 0 rfl) ?_
              refine lv_iload_n hx hb dX7_wouldWrong_68 rfl (lv_at hl 1 rfl) ?_
              refine lv_iload_n hx hb dX7_wouldWrong_69 rfl (lv_at hl 2 rfl) ?_
              refine lv_iload_n hx hb dX7_wouldWrong_70 rfl (lv_at hl 3 rfl) ?_
              refine lv_iload hx hb dX7_wouldWrong_71 (lv_at hl 4 rfl) ?_
              refine lv_iload hx hb dX7_wouldWrong_73 (lv_at hl 5 rfl) ?_
              refine ro_V (As := [.int (nI h), .int (nI i), .int (nI f), .int (nI u), .int (nI kd)]) (h0 := ad 0 0) (rest := []) (v := nI (cwrS c h i f u kd)) hx hb hml hown hC hS hAb (mX7_wrongsOf l hX h i f u kd (show h < c.R 11 1 by first | assumption | omega | decide | (simp only [decide_eq_false_iff_not, decide_eq_true_eq] at *; omega)) (show i < c.R 11 0 by first | assumption | omega | decide | (simp only [decide_eq_false_iff_not, decide_eq_true_eq] at *; omega)) (show f + u ≤ c.R 1 i by first | assumption | omega | decide | (simp only [decide_eq_false_iff_not, decide_eq_true_eq] at *; omega)) (show kd < 4 by first | assumption | omega | decide | (simp only [decide_eq_false_iff_not, decide_eq_true_eq] at *; omega))) kV_X7_126 ⟨rfl, rfl⟩ ⟨Nat.le_of_ble_eq_true rfl, Nat.le_of_ble_eq_true rfl⟩ (hP.recv hC cM_0 rfl) rfl hl (Nat.le_of_ble_eq_true rfl) ⟨show _ ≤ (0 : Nat) by omega, show _ ≤ (0 : Nat) by omega⟩ dX7_wouldWrong_75 ?_
              exact mu_iret (x := nI (cwrS c h i f u kd)) hx hb hr hlocks hS (hX) (by first | rfl | (simp [c_6, c_14, c_26, c_38, c_48, c_60]; done) | (simp [c_6, c_14, c_26, c_38, c_48, c_60]; omega) | (simp_all [c_6, c_14, c_26, c_38, c_48, c_60]; done)) dX7_wouldWrong_78
            · skip
              exact absurd (c_60.symm.trans rfl) (by decide)
          · skip
            exact absurd (c_48.symm.trans (isIn_le (by omega) (by decide))) (by decide)
    · skip
      exact absurd (c_14.symm.trans (by rw [isIn_t hi (by have := wf.sw; have := wf.sh'; have := wf.sl; have := wf.nw; have := wf.nh; have := wf.nl; omega)]; rfl : (!isInS (nI i) (nI 0) (nI (c.R 10 0) - nI 1)) = false)) (by decide)
set_option maxHeartbeats 4000000 in
set_option maxRecDepth 100000 in
theorem mX7_wouldWrong_b1 (l : Launch) {E : En} {c : Cy} {th : Int32} {ly : Ly} {L : List Nat} {ad : Nat → Nat → Nat} {H0 : Heap} (hX : PM E c th ly L ad H0) (v w f u kd : Int32) (hv : (isInS v (nI 0) (nI (c.R 10 1) - nI 1) && isInS w (nI 0) (nI (c.R 10 0) - nI 1)) = false) : MuI l yX7_wouldWrong cX7_wouldWrong 6 .int (rmk 2 0 0 44) [.ref (ad 0 0), .int v, .int w, .int f, .int u, .int kd] E H0 (nI 0) (fun H1 => PM E c (nI 1) ly L ad H1) (cA L H0) 0 0 := by
  obtain ⟨hP, hly, hLb, wf, eq0, eq1, eq2⟩ := id hX
  have wfx := wf
  refine ro_of (by decide) (Nat.le_of_ble_eq_true rfl) ?_
  intro p e s m below meth co ls hx hb hr hml hown hlocks hnm hC hU hl
  have hS : va_S (cA L H0) s.heap H0 [] := by rw [hU]; exact va_S.rf
  have hA : ∀ q, q ∈ L → cA L H0 q := fun q h => Or.inl h
  have hN : ∀ q, s.heap.size ≤ q → cA L H0 q := fun q h => Or.inr (by rw [← hU]; exact h)
  have hAb : ∀ q, cA L H0 q → bA E q := fun q h => h.elim (hLb q) (fun z => Nat.le_trans hC.2.2.2.1 (by rw [hU]; exact z))
  have hl : lv_has ls 6 [(0, .ref (ad 0 0)), (1, .int v), (2, .int w), (3, .int f), (4, .int u), (5, .int kd)] := hl
  refine lv_aload_n hx hb dX7_wouldWrong_0 rfl (lv_at hl 0 rfl) ?_
  refine lv_aload_n hx hb dX7_wouldWrong_1 rfl (lv_at hl 0 rfl) ?_
  refine lv_iload_n hx hb dX7_wouldWrong_2 rfl (lv_at hl 1 rfl) ?_
  refine ro_V (As := [.int v]) (h0 := ad 0 0) (rest := [.ref (ad 0 0)]) (v := bI (!isInS v (nI 0) (nI (c.R 10 1) - nI 1))) hx hb hml hown hC hS hAb (mX7_isNoHand l hX v ) kV_X7_113 ⟨rfl, rfl⟩ ⟨Nat.le_of_ble_eq_true rfl, Nat.le_of_ble_eq_true rfl⟩ (hP.recv hC cM_0 rfl) rfl hl (Nat.le_of_ble_eq_true rfl) ⟨show _ ≤ (0 : Nat) by omega, show _ ≤ (0 : Nat) by omega⟩ dX7_wouldWrong_3 ?_
  refine lv_bif_ne (tgt := 17) hx hb dX7_wouldWrong_6 (by decide) (fun c_6 => ?_) (fun c_6 => ?_)
  · skip
    refine lv_iconstN hx hb 1 dX7_wouldWrong_17 (by decide) ?_
    refine lv_goto (tgt := 22) hx hb dX7_wouldWrong_18 (by decide) ?_
    refine lv_iconstN hx hb 1 dX7_wouldWrong_22 (by decide) ?_
    refine mu_V (As := [.int (nI 1), .int (nI 1)]) (h0 := ad 0 0) (rest := []) (v := bI true) hx hb hml hown hC hS hAb (mX7_start_t l hX 1 (show 1 ≤ 1 by first | assumption | omega | decide | (simp only [decide_eq_false_iff_not, decide_eq_true_eq] at *; omega)) (show 1 < 10 by first | assumption | omega | decide | (simp only [decide_eq_false_iff_not, decide_eq_true_eq] at *; omega))) (fun q h => h.elim (hA q) (fun z => hN q (Nat.le_trans hS.1 z))) kV_X7_41 ⟨rfl, rfl⟩ ⟨Nat.le_of_ble_eq_true rfl, Nat.le_of_ble_eq_true rfl⟩ (hP.recv hC cM_0 rfl) rfl hl (Nat.le_of_ble_eq_true rfl) ⟨show 0 + 0 ≤ (0 : Nat) by omega, show 0 + 0 ≤ (0 : Nat) by omega⟩ dX7_wouldWrong_23 (fun H locs hB hS9 hz hk => ?_)
    have hS := hS9
    have hX : PM E c (nI 1) ly L ad H := hB
    obtain ⟨hP, hly, hLb, wfx, ex0, ex1, ex2⟩ := id hX
    refine lv_bif_ne (tgt := 63) hx hb dX7_wouldWrong_26 (by decide) (fun c_26 => ?_) (fun c_26 => ?_)
    · skip
      refine lv_iconstN hx hb 0 dX7_wouldWrong_63 (by decide) ?_
      refine lv_goto (tgt := 78) hx hb dX7_wouldWrong_64 (by decide) ?_
      exact mu_iret (x := nI 0) hx hb hr hlocks hS (hX) (by first | rfl | (simp [c_6, c_26]; done) | (simp [c_6, c_26]; omega) | (simp_all [c_6, c_26]; done)) dX7_wouldWrong_78
    · skip
      exact absurd (c_26.symm.trans rfl) (by decide)
  · skip
    refine lv_aload_n hx hb dX7_wouldWrong_9 rfl (lv_at hl 0 rfl) ?_
    refine lv_iload_n hx hb dX7_wouldWrong_10 rfl (lv_at hl 2 rfl) ?_
    refine ro_V (As := [.int w]) (h0 := ad 0 0) (rest := [.ref (ad 0 0)]) (v := bI (!isInS w (nI 0) (nI (c.R 10 0) - nI 1))) hx hb hml hown hC hS hAb (mX7_isNoWall l hX w ) kV_X7_56 ⟨rfl, rfl⟩ ⟨Nat.le_of_ble_eq_true rfl, Nat.le_of_ble_eq_true rfl⟩ (hP.recv hC cM_0 rfl) rfl hl (Nat.le_of_ble_eq_true rfl) ⟨show _ ≤ (0 : Nat) by omega, show _ ≤ (0 : Nat) by omega⟩ dX7_wouldWrong_11 ?_
    refine lv_bif_eq (tgt := 21) hx hb dX7_wouldWrong_14 (by decide) (fun c_14 => ?_) (fun c_14 => ?_)
    · skip
      exact absurd hv (by simp at c_6 c_14; simp [c_6, c_14])
    · skip
      refine lv_iconstN hx hb 1 dX7_wouldWrong_17 (by decide) ?_
      refine lv_goto (tgt := 22) hx hb dX7_wouldWrong_18 (by decide) ?_
      refine lv_iconstN hx hb 1 dX7_wouldWrong_22 (by decide) ?_
      refine mu_V (As := [.int (nI 1), .int (nI 1)]) (h0 := ad 0 0) (rest := []) (v := bI true) hx hb hml hown hC hS hAb (mX7_start_t l hX 1 (show 1 ≤ 1 by first | assumption | omega | decide | (simp only [decide_eq_false_iff_not, decide_eq_true_eq] at *; omega)) (show 1 < 10 by first | assumption | omega | decide | (simp only [decide_eq_false_iff_not, decide_eq_true_eq] at *; omega))) (fun q h => h.elim (hA q) (fun z => hN q (Nat.le_trans hS.1 z))) kV_X7_41 ⟨rfl, rfl⟩ ⟨Nat.le_of_ble_eq_true rfl, Nat.le_of_ble_eq_true rfl⟩ (hP.recv hC cM_0 rfl) rfl hl (Nat.le_of_ble_eq_true rfl) ⟨show 0 + 0 ≤ (0 : Nat) by omega, show 0 + 0 ≤ (0 : Nat) by omega⟩ dX7_wouldWrong_23 (fun H locs hB hS9 hz hk => ?_)
      have hS := hS9
      have hX : PM E c (nI 1) ly L ad H := hB
      obtain ⟨hP, hly, hLb, wfx, ex0, ex1, ex2⟩ := id hX
      refine lv_bif_ne (tgt := 63) hx hb dX7_wouldWrong_26 (by decide) (fun c_26 => ?_) (fun c_26 => ?_)
      · skip
        refine lv_iconstN hx hb 0 dX7_wouldWrong_63 (by decide) ?_
        refine lv_goto (tgt := 78) hx hb dX7_wouldWrong_64 (by decide) ?_
        exact mu_iret (x := nI 0) hx hb hr hlocks hS (hX) (by first | rfl | (simp [c_6, c_14, c_26]; done) | (simp [c_6, c_14, c_26]; omega) | (simp_all [c_6, c_14, c_26]; done)) dX7_wouldWrong_78
      · skip
        exact absurd (c_26.symm.trans rfl) (by decide)
set_option maxHeartbeats 4000000 in
set_option maxRecDepth 100000 in
theorem mX7_wouldWrong_b2 (l : Launch) {E : En} {c : Cy} {th : Int32} {ly : Ly} {L : List Nat} {ad : Nat → Nat → Nat} {H0 : Heap} (hX : PM E c th ly L ad H0) (h i : Nat) (f u kd : Int32) (hh : h < c.R 10 1) (hi : i < c.R 10 0) (hf : (hasS c i f u && isInS kd (nI 0) (nI 3)) = false) : MuI l yX7_wouldWrong cX7_wouldWrong 6 .int (rmk 4 0 0 87) [.ref (ad 0 0), .int (nI h), .int (nI i), .int f, .int u, .int kd] E H0 (nI 0) (fun H1 => PM E c (nI 2) ly L ad H1) (cA L H0) 0 0 := by
  obtain ⟨hP, hly, hLb, wf, eq0, eq1, eq2⟩ := id hX
  have wfx := wf
  refine ro_of (by decide) (Nat.le_of_ble_eq_true rfl) ?_
  intro p e s m below meth co ls hx hb hr hml hown hlocks hnm hC hU hl
  have hS : va_S (cA L H0) s.heap H0 [] := by rw [hU]; exact va_S.rf
  have hA : ∀ q, q ∈ L → cA L H0 q := fun q h => Or.inl h
  have hN : ∀ q, s.heap.size ≤ q → cA L H0 q := fun q h => Or.inr (by rw [← hU]; exact h)
  have hAb : ∀ q, cA L H0 q → bA E q := fun q h => h.elim (hLb q) (fun z => Nat.le_trans hC.2.2.2.1 (by rw [hU]; exact z))
  have hl : lv_has ls 6 [(0, .ref (ad 0 0)), (1, .int (nI h)), (2, .int (nI i)), (3, .int f), (4, .int u), (5, .int kd)] := hl
  have gw := wf.sw
  refine lv_aload_n hx hb dX7_wouldWrong_0 rfl (lv_at hl 0 rfl) ?_
  refine lv_aload_n hx hb dX7_wouldWrong_1 rfl (lv_at hl 0 rfl) ?_
  refine lv_iload_n hx hb dX7_wouldWrong_2 rfl (lv_at hl 1 rfl) ?_
  refine ro_V (As := [.int (nI h)]) (h0 := ad 0 0) (rest := [.ref (ad 0 0)]) (v := bI (!isInS (nI h) (nI 0) (nI (c.R 10 1) - nI 1))) hx hb hml hown hC hS hAb (mX7_isNoHand l hX (nI h) ) kV_X7_113 ⟨rfl, rfl⟩ ⟨Nat.le_of_ble_eq_true rfl, Nat.le_of_ble_eq_true rfl⟩ (hP.recv hC cM_0 rfl) rfl hl (Nat.le_of_ble_eq_true rfl) ⟨show _ ≤ (0 : Nat) by omega, show _ ≤ (0 : Nat) by omega⟩ dX7_wouldWrong_3 ?_
  refine lv_bif_ne (tgt := 17) hx hb dX7_wouldWrong_6 (by decide) (fun c_6 => ?_) (fun c_6 => ?_)
  · skip
    exact absurd (c_6.symm.trans (by rw [isIn_t hh (by have := wf.sw; have := wf.sh'; have := wf.sl; have := wf.nw; have := wf.nh; have := wf.nl; omega)]; rfl : (!isInS (nI h) (nI 0) (nI (c.R 10 1) - nI 1)) = false)) (by decide)
  · skip
    refine lv_aload_n hx hb dX7_wouldWrong_9 rfl (lv_at hl 0 rfl) ?_
    refine lv_iload_n hx hb dX7_wouldWrong_10 rfl (lv_at hl 2 rfl) ?_
    refine ro_V (As := [.int (nI i)]) (h0 := ad 0 0) (rest := [.ref (ad 0 0)]) (v := bI (!isInS (nI i) (nI 0) (nI (c.R 10 0) - nI 1))) hx hb hml hown hC hS hAb (mX7_isNoWall l hX (nI i) ) kV_X7_56 ⟨rfl, rfl⟩ ⟨Nat.le_of_ble_eq_true rfl, Nat.le_of_ble_eq_true rfl⟩ (hP.recv hC cM_0 rfl) rfl hl (Nat.le_of_ble_eq_true rfl) ⟨show _ ≤ (0 : Nat) by omega, show _ ≤ (0 : Nat) by omega⟩ dX7_wouldWrong_11 ?_
    refine lv_bif_eq (tgt := 21) hx hb dX7_wouldWrong_14 (by decide) (fun c_14 => ?_) (fun c_14 => ?_)
    · skip
      refine lv_iconstN hx hb 0 dX7_wouldWrong_21 (by decide) ?_
      refine lv_iconstN hx hb 1 dX7_wouldWrong_22 (by decide) ?_
      refine mu_V (As := [.int (nI 0), .int (nI 1)]) (h0 := ad 0 0) (rest := []) (v := bI false) hx hb hml hown hC hS hAb (mX7_start_f l hX 1 ) (fun q h => h.elim (hA q) (fun z => hN q (Nat.le_trans hS.1 z))) kV_X7_41 ⟨rfl, rfl⟩ ⟨Nat.le_of_ble_eq_true rfl, Nat.le_of_ble_eq_true rfl⟩ (hP.recv hC cM_0 rfl) rfl hl (Nat.le_of_ble_eq_true rfl) ⟨show 0 + 0 ≤ (0 : Nat) by omega, show 0 + 0 ≤ (0 : Nat) by omega⟩ dX7_wouldWrong_23 (fun H locs hB hS9 hz hk => ?_)
      have hS := hS9
      have hX : PM E c (nI 0) ly L ad H := hB
      obtain ⟨hP, hly, hLb, wfx, ex0, ex1, ex2⟩ := id hX
      refine lv_bif_ne (tgt := 63) hx hb dX7_wouldWrong_26 (by decide) (fun c_26 => ?_) (fun c_26 => ?_)
      · skip
        exact absurd (c_26.symm.trans rfl) (by decide)
      · skip
        refine lv_aload_n hx hb dX7_wouldWrong_29 rfl (lv_at hl 0 rfl) ?_
        refine lv_aload_n hx hb dX7_wouldWrong_30 rfl (lv_at hl 0 rfl) ?_
        refine lv_iload_n hx hb dX7_wouldWrong_31 rfl (lv_at hl 2 rfl) ?_
        refine lv_iload_n hx hb dX7_wouldWrong_32 rfl (lv_at hl 3 rfl) ?_
        refine lv_iload hx hb dX7_wouldWrong_33 (lv_at hl 4 rfl) ?_
        refine ro_V (As := [.int (nI i), .int f, .int u]) (h0 := ad 0 0) (rest := [.ref (ad 0 0)]) (v := bI (npS c i f u)) hx hb hml hown hC hS hAb (mX7_isNoPlace l hX i f u (show i < c.R 11 0 by first | assumption | omega | decide | (simp only [decide_eq_false_iff_not, decide_eq_true_eq] at *; omega))) kV_X7_116 ⟨rfl, rfl⟩ ⟨Nat.le_of_ble_eq_true rfl, Nat.le_of_ble_eq_true rfl⟩ (hP.recv hC cM_0 rfl) rfl hl (Nat.le_of_ble_eq_true rfl) ⟨show _ ≤ (0 : Nat) by omega, show _ ≤ (0 : Nat) by omega⟩ dX7_wouldWrong_35 ?_
        refine lv_bif_ne (tgt := 51) hx hb dX7_wouldWrong_38 (by decide) (fun c_38 => ?_) (fun c_38 => ?_)
        · skip
          refine lv_iconstN hx hb 1 dX7_wouldWrong_51 (by decide) ?_
          refine lv_goto (tgt := 56) hx hb dX7_wouldWrong_52 (by decide) ?_
          refine lv_iconstN hx hb 2 dX7_wouldWrong_56 (by decide) ?_
          refine mu_V (As := [.int (nI 1), .int (nI 2)]) (h0 := ad 0 0) (rest := []) (v := bI true) hx hb hml hown hC hS hAb (mX7_refuse_t l hX 2 (show 1 ≤ 2 by first | assumption | omega | decide | (simp only [decide_eq_false_iff_not, decide_eq_true_eq] at *; omega)) (show 2 < 10 by first | assumption | omega | decide | (simp only [decide_eq_false_iff_not, decide_eq_true_eq] at *; omega))) (fun q h => h.elim (hA q) (fun z => hN q (Nat.le_trans hS.1 z))) kV_X7_29 ⟨rfl, rfl⟩ ⟨Nat.le_of_ble_eq_true rfl, Nat.le_of_ble_eq_true rfl⟩ (hP.recv hC cM_0 rfl) rfl hl (Nat.le_of_ble_eq_true rfl) ⟨show 0 + 0 ≤ (0 : Nat) by omega, show 0 + 0 ≤ (0 : Nat) by omega⟩ dX7_wouldWrong_57 (fun H locs hB hS9 hz hk => ?_)
          have hS := hS9
          have hX : PM E c (nI 2) ly L ad H := hB
          obtain ⟨hP, hly, hLb, wfx, ex0, ex1, ex2⟩ := id hX
          refine lv_bif_eq (tgt := 67) hx hb dX7_wouldWrong_60 (by decide) (fun c_60 => ?_) (fun c_60 => ?_)
          · skip
            exact absurd (c_60.symm.trans rfl) (by decide)
          · skip
            refine lv_iconstN hx hb 0 dX7_wouldWrong_63 (by decide) ?_
            refine lv_goto (tgt := 78) hx hb dX7_wouldWrong_64 (by decide) ?_
            exact mu_iret (x := nI 0) hx hb hr hlocks hS (hX) (by first | rfl | (simp [c_6, c_14, c_26, c_38, c_60]; done) | (simp [c_6, c_14, c_26, c_38, c_60]; omega) | (simp_all [c_6, c_14, c_26, c_38, c_60]; done)) dX7_wouldWrong_78
        · skip
          refine lv_iload hx hb dX7_wouldWrong_41 (lv_at hl 5 rfl) ?_
          refine lv_iconstN hx hb 0 dX7_wouldWrong_43 (by decide) ?_
          refine lv_iconstN hx hb 3 dX7_wouldWrong_44 (by decide) ?_
          refine ro_S (As := [.int kd, .int (nI 0), .int (nI 3)]) (rest := [.ref (ad 0 0)]) (v := bI (isInS kd (nI 0) (nI 3))) hx hb hml hown hC hS hAb (mX7_isIn l kd (nI 0) (nI 3) ) kS_X7_37 ⟨rfl, rfl⟩ ⟨Nat.le_of_ble_eq_true rfl, Nat.le_of_ble_eq_true rfl⟩ rfl hl (Nat.le_of_ble_eq_true rfl) ⟨show _ ≤ (0 : Nat) by omega, show _ ≤ (0 : Nat) by omega⟩ dX7_wouldWrong_45 ?_
          refine lv_bif_ne (tgt := 55) hx hb dX7_wouldWrong_48 (by decide) (fun c_48 => ?_) (fun c_48 => ?_)
          · skip
            exact absurd hf (by rw [np_has wf (by have := wf.sw; omega)] at c_38; simp at c_38; simp [c_38, c_48])
          · skip
            refine lv_iconstN hx hb 1 dX7_wouldWrong_51 (by decide) ?_
            refine lv_goto (tgt := 56) hx hb dX7_wouldWrong_52 (by decide) ?_
            refine lv_iconstN hx hb 2 dX7_wouldWrong_56 (by decide) ?_
            refine mu_V (As := [.int (nI 1), .int (nI 2)]) (h0 := ad 0 0) (rest := []) (v := bI true) hx hb hml hown hC hS hAb (mX7_refuse_t l hX 2 (show 1 ≤ 2 by first | assumption | omega | decide | (simp only [decide_eq_false_iff_not, decide_eq_true_eq] at *; omega)) (show 2 < 10 by first | assumption | omega | decide | (simp only [decide_eq_false_iff_not, decide_eq_true_eq] at *; omega))) (fun q h => h.elim (hA q) (fun z => hN q (Nat.le_trans hS.1 z))) kV_X7_29 ⟨rfl, rfl⟩ ⟨Nat.le_of_ble_eq_true rfl, Nat.le_of_ble_eq_true rfl⟩ (hP.recv hC cM_0 rfl) rfl hl (Nat.le_of_ble_eq_true rfl) ⟨show 0 + 0 ≤ (0 : Nat) by omega, show 0 + 0 ≤ (0 : Nat) by omega⟩ dX7_wouldWrong_57 (fun H locs hB hS9 hz hk => ?_)
            have hS := hS9
            have hX : PM E c (nI 2) ly L ad H := hB
            obtain ⟨hP, hly, hLb, wfx, ex0, ex1, ex2⟩ := id hX
            refine lv_bif_eq (tgt := 67) hx hb dX7_wouldWrong_60 (by decide) (fun c_60 => ?_) (fun c_60 => ?_)
            · skip
              exact absurd (c_60.symm.trans rfl) (by decide)
            · skip
              refine lv_iconstN hx hb 0 dX7_wouldWrong_63 (by decide) ?_
              refine lv_goto (tgt := 78) hx hb dX7_wouldWrong_64 (by decide) ?_
              exact mu_iret (x := nI 0) hx hb hr hlocks hS (hX) (by first | rfl | (simp [c_6, c_14, c_26, c_38, c_48, c_60]; done) | (simp [c_6, c_14, c_26, c_38, c_48, c_60]; omega) | (simp_all [c_6, c_14, c_26, c_38, c_48, c_60]; done)) dX7_wouldWrong_78
    · skip
      exact absurd (c_14.symm.trans (by rw [isIn_t hi (by have := wf.sw; have := wf.sh'; have := wf.sl; have := wf.nw; have := wf.nh; have := wf.nl; omega)]; rfl : (!isInS (nI i) (nI 0) (nI (c.R 10 0) - nI 1)) = false)) (by decide)
set_option maxHeartbeats 4000000 in
set_option maxRecDepth 100000 in
theorem mX7_wouldFame_g (l : Launch) {E : En} {c : Cy} {th : Int32} {ly : Ly} {L : List Nat} {ad : Nat → Nat → Nat} {H0 : Heap} (hX : PM E c th ly L ad H0) (h n : Nat) (hh : h < c.R 10 1) (hn : n ≤ 30) : MuI l yX7_wouldFame cX7_wouldFame 3 .int (rmk 4 1 4 93) [.ref (ad 0 0), .int (nI h), .int (nI n)] E H0 (wbfS c h n) (fun H1 => PM E c (nI 0) ly L ad H1) (cA L H0) 1 4 := by
  obtain ⟨hP, hly, hLb, wf, eq0, eq1, eq2⟩ := id hX
  have wfx := wf
  refine ro_of (by decide) (Nat.le_of_ble_eq_true rfl) ?_
  intro p e s m below meth co ls hx hb hr hml hown hlocks hnm hC hU hl
  have hS : va_S (cA L H0) s.heap H0 [] := by rw [hU]; exact va_S.rf
  have hA : ∀ q, q ∈ L → cA L H0 q := fun q h => Or.inl h
  have hN : ∀ q, s.heap.size ≤ q → cA L H0 q := fun q h => Or.inr (by rw [← hU]; exact h)
  have hAb : ∀ q, cA L H0 q → bA E q := fun q h => h.elim (hLb q) (fun z => Nat.le_trans hC.2.2.2.1 (by rw [hU]; exact z))
  have hl : lv_has ls 3 [(0, .ref (ad 0 0)), (1, .int (nI h)), (2, .int (nI n))] := hl
  have gs := wf.sh'
  refine lv_aload_n hx hb dX7_wouldFame_0 rfl (lv_at hl 0 rfl) ?_
  refine lv_aload_n hx hb dX7_wouldFame_1 rfl (lv_at hl 0 rfl) ?_
  refine lv_iload_n hx hb dX7_wouldFame_2 rfl (lv_at hl 1 rfl) ?_
  refine ro_V (As := [.int (nI h)]) (h0 := ad 0 0) (rest := [.ref (ad 0 0)]) (v := bI (!isInS (nI h) (nI 0) (nI (c.R 10 1) - nI 1))) hx hb hml hown hC hS hAb (mX7_isNoHand l hX (nI h) ) kV_X7_113 ⟨rfl, rfl⟩ ⟨Nat.le_of_ble_eq_true rfl, Nat.le_of_ble_eq_true rfl⟩ (hP.recv hC cM_0 rfl) rfl hl (Nat.le_of_ble_eq_true rfl) ⟨show _ ≤ (1 : Nat) by omega, show _ ≤ (4 : Nat) by omega⟩ dX7_wouldFame_3 ?_
  refine lv_iconstN hx hb 1 dX7_wouldFame_6 (by decide) ?_
  rw [(by rw [isIn_t hh (by have := wf.sw; have := wf.sh'; have := wf.sl; have := wf.nw; have := wf.nh; have := wf.nl; omega)]; rfl : (!isInS (nI h) (nI 0) (nI (c.R 10 1) - nI 1)) = false)]
  refine mu_V (As := [.int (bI false), .int (nI 1)]) (h0 := ad 0 0) (rest := []) (v := bI false) hx hb hml hown hC hS hAb (mX7_start_f l hX 1 ) (fun q h => h.elim (hA q) (fun z => hN q (Nat.le_trans hS.1 z))) kV_X7_41 ⟨rfl, rfl⟩ ⟨Nat.le_of_ble_eq_true rfl, Nat.le_of_ble_eq_true rfl⟩ (hP.recv hC cM_0 rfl) rfl hl (Nat.le_of_ble_eq_true rfl) ⟨show 0 + 0 ≤ (1 : Nat) by omega, show 0 + 0 ≤ (4 : Nat) by omega⟩ dX7_wouldFame_7 (fun H locs hB hS9 hz hk => ?_)
  have hS := hS9
  have hX : PM E c (nI 0) ly L ad H := hB
  obtain ⟨hP, hly, hLb, wfx, ex0, ex1, ex2⟩ := id hX
  refine lv_bif_ne (tgt := 36) hx hb dX7_wouldFame_10 (by decide) (fun c_10 => ?_) (fun c_10 => ?_)
  · skip
    exact absurd (c_10.symm.trans rfl) (by decide)
  · skip
    refine lv_aload_n hx hb dX7_wouldFame_13 rfl (lv_at hl 0 rfl) ?_
    refine lv_iload_n hx hb dX7_wouldFame_14 rfl (lv_at hl 2 rfl) ?_
    refine lv_iconstN hx hb 0 dX7_wouldFame_15 (by decide) ?_
    refine lv_bipushN hx hb 30 dX7_wouldFame_16 (by decide) ?_
    refine ro_S (As := [.int (nI n), .int (nI 0), .int (nI 30)]) (rest := [.ref (ad 0 0)]) (v := bI (isInS (nI n) (nI 0) (nI 30))) hx hb hml hown hC hS hAb (mX7_isIn l (nI n) (nI 0) (nI 30) ) kS_X7_37 ⟨rfl, rfl⟩ ⟨Nat.le_of_ble_eq_true rfl, Nat.le_of_ble_eq_true rfl⟩ rfl hl (Nat.le_of_ble_eq_true rfl) ⟨show _ ≤ (1 : Nat) by omega, show _ ≤ (4 : Nat) by omega⟩ dX7_wouldFame_18 ?_
    refine lv_bif_ne (tgt := 28) hx hb dX7_wouldFame_21 (by decide) (fun c_21 => ?_) (fun c_21 => ?_)
    · skip
      refine lv_iconstN hx hb 0 dX7_wouldFame_28 (by decide) ?_
      refine lv_iconstN hx hb 2 dX7_wouldFame_29 (by decide) ?_
      refine mu_V (As := [.int (nI 0), .int (nI 2)]) (h0 := ad 0 0) (rest := []) (v := bI false) hx hb hml hown hC hS hAb (mX7_refuse_f l hX 2 ) (fun q h => h.elim (hA q) (fun z => hN q (Nat.le_trans hS.1 z))) kV_X7_29 ⟨rfl, rfl⟩ ⟨Nat.le_of_ble_eq_true rfl, Nat.le_of_ble_eq_true rfl⟩ (hP.recv hC cM_0 rfl) rfl hl (Nat.le_of_ble_eq_true rfl) ⟨show 0 + 0 ≤ (1 : Nat) by omega, show 0 + 0 ≤ (4 : Nat) by omega⟩ dX7_wouldFame_30 (fun H locs hB hS9 hz hk => ?_)
      have hS := hS9
      have hX : PM E c (nI 0) ly L ad H := hB
      obtain ⟨hP, hly, hLb, wfx, ex0, ex1, ex2⟩ := id hX
      refine lv_bif_eq (tgt := 40) hx hb dX7_wouldFame_33 (by decide) (fun c_33 => ?_) (fun c_33 => ?_)
      · skip
        refine lv_aload_n hx hb dX7_wouldFame_40 rfl (lv_at hl 0 rfl) ?_
        refine lv_iload_n hx hb dX7_wouldFame_41 rfl (lv_at hl 1 rfl) ?_
        refine lv_iload_n hx hb dX7_wouldFame_42 rfl (lv_at hl 2 rfl) ?_
        refine mu_V (As := [.int (nI h), .int (nI n)]) (h0 := ad 0 0) (rest := []) (v := wbfS c h n) hx hb hml hown hC hS hAb (mX7_wouldFameNow l hX h n (show h < c.R 11 1 by first | assumption | omega | decide | (simp only [decide_eq_false_iff_not, decide_eq_true_eq] at *; omega)) (show n ≤ 30 by first | assumption | omega | decide | (simp only [decide_eq_false_iff_not, decide_eq_true_eq] at *; omega))) (fun q h => h.elim (hA q) (fun z => hN q (Nat.le_trans hS.1 z))) kV_X7_278 ⟨rfl, rfl⟩ ⟨Nat.le_of_ble_eq_true rfl, Nat.le_of_ble_eq_true rfl⟩ (hP.recv hC cM_0 rfl) rfl hl (Nat.le_of_ble_eq_true rfl) ⟨show 0 + 1 ≤ (1 : Nat) by omega, show 0 + 4 ≤ (4 : Nat) by omega⟩ dX7_wouldFame_43 (fun H locs hB hS9 hz hk => ?_)
        have hS := hS9
        have hX : PM E c (nI 0) ly L ad H := hB
        obtain ⟨hP, hly, hLb, wfx, ex0, ex1, ex2⟩ := id hX
        exact mu_iret (x := wbfS c h n) hx hb hr hlocks hS (hX) (by first | rfl | (simp [c_10, c_21, c_33]; done) | (simp [c_10, c_21, c_33]; omega) | (simp_all [c_10, c_21, c_33]; done)) dX7_wouldFame_46
      · skip
        exact absurd (c_33.symm.trans rfl) (by decide)
    · skip
      exact absurd (c_21.symm.trans (isIn_le hn (by decide))) (by decide)
set_option maxHeartbeats 4000000 in
set_option maxRecDepth 100000 in
theorem mX7_wouldFame_b1 (l : Launch) {E : En} {c : Cy} {th : Int32} {ly : Ly} {L : List Nat} {ad : Nat → Nat → Nat} {H0 : Heap} (hX : PM E c th ly L ad H0) (v n : Int32) (hv : isInS v (nI 0) (nI (c.R 10 1) - nI 1) = false) : MuI l yX7_wouldFame cX7_wouldFame 3 .int (rmk 2 0 0 44) [.ref (ad 0 0), .int v, .int n] E H0 (nI 0) (fun H1 => PM E c (nI 1) ly L ad H1) (cA L H0) 0 0 := by
  obtain ⟨hP, hly, hLb, wf, eq0, eq1, eq2⟩ := id hX
  have wfx := wf
  refine ro_of (by decide) (Nat.le_of_ble_eq_true rfl) ?_
  intro p e s m below meth co ls hx hb hr hml hown hlocks hnm hC hU hl
  have hS : va_S (cA L H0) s.heap H0 [] := by rw [hU]; exact va_S.rf
  have hA : ∀ q, q ∈ L → cA L H0 q := fun q h => Or.inl h
  have hN : ∀ q, s.heap.size ≤ q → cA L H0 q := fun q h => Or.inr (by rw [← hU]; exact h)
  have hAb : ∀ q, cA L H0 q → bA E q := fun q h => h.elim (hLb q) (fun z => Nat.le_trans hC.2.2.2.1 (by rw [hU]; exact z))
  have hl : lv_has ls 3 [(0, .ref (ad 0 0)), (1, .int v), (2, .int n)] := hl
  refine lv_aload_n hx hb dX7_wouldFame_0 rfl (lv_at hl 0 rfl) ?_
  refine lv_aload_n hx hb dX7_wouldFame_1 rfl (lv_at hl 0 rfl) ?_
  refine lv_iload_n hx hb dX7_wouldFame_2 rfl (lv_at hl 1 rfl) ?_
  refine ro_V (As := [.int v]) (h0 := ad 0 0) (rest := [.ref (ad 0 0)]) (v := bI (!isInS v (nI 0) (nI (c.R 10 1) - nI 1))) hx hb hml hown hC hS hAb (mX7_isNoHand l hX v ) kV_X7_113 ⟨rfl, rfl⟩ ⟨Nat.le_of_ble_eq_true rfl, Nat.le_of_ble_eq_true rfl⟩ (hP.recv hC cM_0 rfl) rfl hl (Nat.le_of_ble_eq_true rfl) ⟨show _ ≤ (0 : Nat) by omega, show _ ≤ (0 : Nat) by omega⟩ dX7_wouldFame_3 ?_
  refine lv_iconstN hx hb 1 dX7_wouldFame_6 (by decide) ?_
  rw [(by rw [hv]; rfl : (!isInS v (nI 0) (nI (c.R 10 1) - nI 1)) = true)]
  refine mu_V (As := [.int (bI true), .int (nI 1)]) (h0 := ad 0 0) (rest := []) (v := bI true) hx hb hml hown hC hS hAb (mX7_start_t l hX 1 (show 1 ≤ 1 by first | assumption | omega | decide | (simp only [decide_eq_false_iff_not, decide_eq_true_eq] at *; omega)) (show 1 < 10 by first | assumption | omega | decide | (simp only [decide_eq_false_iff_not, decide_eq_true_eq] at *; omega))) (fun q h => h.elim (hA q) (fun z => hN q (Nat.le_trans hS.1 z))) kV_X7_41 ⟨rfl, rfl⟩ ⟨Nat.le_of_ble_eq_true rfl, Nat.le_of_ble_eq_true rfl⟩ (hP.recv hC cM_0 rfl) rfl hl (Nat.le_of_ble_eq_true rfl) ⟨show 0 + 0 ≤ (0 : Nat) by omega, show 0 + 0 ≤ (0 : Nat) by omega⟩ dX7_wouldFame_7 (fun H locs hB hS9 hz hk => ?_)
  have hS := hS9
  have hX : PM E c (nI 1) ly L ad H := hB
  obtain ⟨hP, hly, hLb, wfx, ex0, ex1, ex2⟩ := id hX
  refine lv_bif_ne (tgt := 36) hx hb dX7_wouldFame_10 (by decide) (fun c_10 => ?_) (fun c_10 => ?_)
  · skip
    refine lv_iconstN hx hb 0 dX7_wouldFame_36 (by decide) ?_
    refine lv_goto (tgt := 46) hx hb dX7_wouldFame_37 (by decide) ?_
    exact mu_iret (x := nI 0) hx hb hr hlocks hS (hX) (by first | rfl | (simp [c_10]; done) | (simp [c_10]; omega) | (simp_all [c_10]; done)) dX7_wouldFame_46
  · skip
    exact absurd (c_10.symm.trans rfl) (by decide)
set_option maxHeartbeats 4000000 in
set_option maxRecDepth 100000 in
theorem mX7_wouldFame_b2 (l : Launch) {E : En} {c : Cy} {th : Int32} {ly : Ly} {L : List Nat} {ad : Nat → Nat → Nat} {H0 : Heap} (hX : PM E c th ly L ad H0) (h : Nat) (n : Int32) (hh : h < c.R 10 1) (hn : isInS n (nI 0) (nI 30) = false) : MuI l yX7_wouldFame cX7_wouldFame 3 .int (rmk 2 0 0 44) [.ref (ad 0 0), .int (nI h), .int n] E H0 (nI 0) (fun H1 => PM E c (nI 2) ly L ad H1) (cA L H0) 0 0 := by
  obtain ⟨hP, hly, hLb, wf, eq0, eq1, eq2⟩ := id hX
  have wfx := wf
  refine ro_of (by decide) (Nat.le_of_ble_eq_true rfl) ?_
  intro p e s m below meth co ls hx hb hr hml hown hlocks hnm hC hU hl
  have hS : va_S (cA L H0) s.heap H0 [] := by rw [hU]; exact va_S.rf
  have hA : ∀ q, q ∈ L → cA L H0 q := fun q h => Or.inl h
  have hN : ∀ q, s.heap.size ≤ q → cA L H0 q := fun q h => Or.inr (by rw [← hU]; exact h)
  have hAb : ∀ q, cA L H0 q → bA E q := fun q h => h.elim (hLb q) (fun z => Nat.le_trans hC.2.2.2.1 (by rw [hU]; exact z))
  have hl : lv_has ls 3 [(0, .ref (ad 0 0)), (1, .int (nI h)), (2, .int n)] := hl
  refine lv_aload_n hx hb dX7_wouldFame_0 rfl (lv_at hl 0 rfl) ?_
  refine lv_aload_n hx hb dX7_wouldFame_1 rfl (lv_at hl 0 rfl) ?_
  refine lv_iload_n hx hb dX7_wouldFame_2 rfl (lv_at hl 1 rfl) ?_
  refine ro_V (As := [.int (nI h)]) (h0 := ad 0 0) (rest := [.ref (ad 0 0)]) (v := bI (!isInS (nI h) (nI 0) (nI (c.R 10 1) - nI 1))) hx hb hml hown hC hS hAb (mX7_isNoHand l hX (nI h) ) kV_X7_113 ⟨rfl, rfl⟩ ⟨Nat.le_of_ble_eq_true rfl, Nat.le_of_ble_eq_true rfl⟩ (hP.recv hC cM_0 rfl) rfl hl (Nat.le_of_ble_eq_true rfl) ⟨show _ ≤ (0 : Nat) by omega, show _ ≤ (0 : Nat) by omega⟩ dX7_wouldFame_3 ?_
  refine lv_iconstN hx hb 1 dX7_wouldFame_6 (by decide) ?_
  rw [(by rw [isIn_t hh (by have := wf.sw; have := wf.sh'; have := wf.sl; have := wf.nw; have := wf.nh; have := wf.nl; omega)]; rfl : (!isInS (nI h) (nI 0) (nI (c.R 10 1) - nI 1)) = false)]
  refine mu_V (As := [.int (bI false), .int (nI 1)]) (h0 := ad 0 0) (rest := []) (v := bI false) hx hb hml hown hC hS hAb (mX7_start_f l hX 1 ) (fun q h => h.elim (hA q) (fun z => hN q (Nat.le_trans hS.1 z))) kV_X7_41 ⟨rfl, rfl⟩ ⟨Nat.le_of_ble_eq_true rfl, Nat.le_of_ble_eq_true rfl⟩ (hP.recv hC cM_0 rfl) rfl hl (Nat.le_of_ble_eq_true rfl) ⟨show 0 + 0 ≤ (0 : Nat) by omega, show 0 + 0 ≤ (0 : Nat) by omega⟩ dX7_wouldFame_7 (fun H locs hB hS9 hz hk => ?_)
  have hS := hS9
  have hX : PM E c (nI 0) ly L ad H := hB
  obtain ⟨hP, hly, hLb, wfx, ex0, ex1, ex2⟩ := id hX
  refine lv_bif_ne (tgt := 36) hx hb dX7_wouldFame_10 (by decide) (fun c_10 => ?_) (fun c_10 => ?_)
  · skip
    exact absurd (c_10.symm.trans rfl) (by decide)
  · skip
    refine lv_aload_n hx hb dX7_wouldFame_13 rfl (lv_at hl 0 rfl) ?_
    refine lv_iload_n hx hb dX7_wouldFame_14 rfl (lv_at hl 2 rfl) ?_
    refine lv_iconstN hx hb 0 dX7_wouldFame_15 (by decide) ?_
    refine lv_bipushN hx hb 30 dX7_wouldFame_16 (by decide) ?_
    refine ro_S (As := [.int n, .int (nI 0), .int (nI 30)]) (rest := [.ref (ad 0 0)]) (v := bI (isInS n (nI 0) (nI 30))) hx hb hml hown hC hS hAb (mX7_isIn l n (nI 0) (nI 30) ) kS_X7_37 ⟨rfl, rfl⟩ ⟨Nat.le_of_ble_eq_true rfl, Nat.le_of_ble_eq_true rfl⟩ rfl hl (Nat.le_of_ble_eq_true rfl) ⟨show _ ≤ (0 : Nat) by omega, show _ ≤ (0 : Nat) by omega⟩ dX7_wouldFame_18 ?_
    refine lv_bif_ne (tgt := 28) hx hb dX7_wouldFame_21 (by decide) (fun c_21 => ?_) (fun c_21 => ?_)
    · skip
      exact absurd (c_21.symm.trans hn) (by decide)
    · skip
      refine lv_iconstN hx hb 1 dX7_wouldFame_24 (by decide) ?_
      refine lv_goto (tgt := 29) hx hb dX7_wouldFame_25 (by decide) ?_
      refine lv_iconstN hx hb 2 dX7_wouldFame_29 (by decide) ?_
      refine mu_V (As := [.int (nI 1), .int (nI 2)]) (h0 := ad 0 0) (rest := []) (v := bI true) hx hb hml hown hC hS hAb (mX7_refuse_t l hX 2 (show 1 ≤ 2 by first | assumption | omega | decide | (simp only [decide_eq_false_iff_not, decide_eq_true_eq] at *; omega)) (show 2 < 10 by first | assumption | omega | decide | (simp only [decide_eq_false_iff_not, decide_eq_true_eq] at *; omega))) (fun q h => h.elim (hA q) (fun z => hN q (Nat.le_trans hS.1 z))) kV_X7_29 ⟨rfl, rfl⟩ ⟨Nat.le_of_ble_eq_true rfl, Nat.le_of_ble_eq_true rfl⟩ (hP.recv hC cM_0 rfl) rfl hl (Nat.le_of_ble_eq_true rfl) ⟨show 0 + 0 ≤ (0 : Nat) by omega, show 0 + 0 ≤ (0 : Nat) by omega⟩ dX7_wouldFame_30 (fun H locs hB hS9 hz hk => ?_)
      have hS := hS9
      have hX : PM E c (nI 2) ly L ad H := hB
      obtain ⟨hP, hly, hLb, wfx, ex0, ex1, ex2⟩ := id hX
      refine lv_bif_eq (tgt := 40) hx hb dX7_wouldFame_33 (by decide) (fun c_33 => ?_) (fun c_33 => ?_)
      · skip
        exact absurd (c_33.symm.trans rfl) (by decide)
      · skip
        refine lv_iconstN hx hb 0 dX7_wouldFame_36 (by decide) ?_
        refine lv_goto (tgt := 46) hx hb dX7_wouldFame_37 (by decide) ?_
        exact mu_iret (x := nI 0) hx hb hr hlocks hS (hX) (by first | rfl | (simp [c_10, c_21, c_33]; done) | (simp [c_10, c_21, c_33]; omega) | (simp_all [c_10, c_21, c_33]; done)) dX7_wouldFame_46
