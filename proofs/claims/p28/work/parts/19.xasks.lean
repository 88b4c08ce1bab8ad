set_option maxHeartbeats 4000000 in
set_option maxRecDepth 100000 in
theorem mX3_wallAt_g (l : Launch) {E : En} {c : Cy} {ly : Ly} {L : List Nat} {ad : Nat → Nat → Nat} {H : Heap} (hX : PX E c ly L ad H) (i : Nat) (hi : i < c.R 10 0) : RoR l yX3_wallAt cX3_wallAt 2 (.object "Wallcode$Wall") (rmk 3 0 0 64) [.ref (ad 0 0), .int (nI i)] E H (some (ad 3 i)) := by
  obtain ⟨hP, hly, hLb, wf⟩ := id hX
  refine ro_of (by decide) (Nat.le_of_ble_eq_true rfl) ?_
  intro p e s m below meth co ls hx hb hr hml hown hlocks hnm hC hU hl
  have hS : va_S noA s.heap H [] := by rw [hU]; exact va_S.rf
  have hAb : ∀ q, noA q → bA E q := fun _ h => h.elim
  have hl : lv_has ls 2 [(0, .ref (ad 0 0)), (1, .int (nI i))] := hl
  refine lv_iload_n hx hb dX3_wallAt_0 rfl (lv_at hl 1 rfl) ?_
  refine lv_iconstN hx hb 0 dX3_wallAt_1 (by decide) ?_
  refine lv_aload_n hx hb dX3_wallAt_2 rfl (lv_at hl 0 rfl) ?_
  refine pi_get hx hb hC hown hP fL_X3_10 0 0 cX_0 (v := .ref (ad 1 0)) rfl dX3_wallAt_3 ?_
  refine ro_V (As := []) (h0 := ad 1 0) (rest := [.int (nI 0), .int (nI i)]) (v := nI (c.R 10 0)) hx hb hml hown hC hS hAb (mJ_size l hP 0 (cX_1 (by decide))) kV_X3_43 ⟨rfl, rfl⟩ ⟨Nat.le_of_ble_eq_true rfl, Nat.le_of_ble_eq_true rfl⟩ (hP.recv hC (cX_1 (i := 0) (by decide)) rfl) rfl hl (Nat.le_of_ble_eq_true rfl) ⟨Nat.zero_le _, Nat.zero_le _⟩ dX3_wallAt_6 ?_
  have g_1 := wf.sw
  have g_2 := wf.nw
  refine lv_iconstN hx hb 1 dX3_wallAt_9 (by decide) ?_
  refine lv_isub hx hb dX3_wallAt_10 ?_
  refine ro_S (As := [.int (nI i), .int (nI 0), .int ((nI (c.R 10 0)) - (nI 1))]) (rest := []) (v := bI (isInS (nI i) (nI 0) ((nI (c.R 10 0)) - (nI 1)))) hx hb hml hown hC hS hAb (mX3_isWithin l (nI i) (nI 0) ((nI (c.R 10 0)) - (nI 1)) ) kS_X3_32 ⟨rfl, rfl⟩ ⟨Nat.le_of_ble_eq_true rfl, Nat.le_of_ble_eq_true rfl⟩ rfl hl (Nat.le_of_ble_eq_true rfl) ⟨Nat.zero_le _, Nat.zero_le _⟩ dX3_wallAt_11 ?_
  refine lv_bif_ne (tgt := 28) hx hb dX3_wallAt_14 (by decide) (fun c_14 => ?_) (fun c_14 => ?_)
  · skip
    refine lv_aload_n hx hb dX3_wallAt_28 rfl (lv_at hl 0 rfl) ?_
    refine pi_get hx hb hC hown hP fL_X3_10 0 0 cX_0 (v := .ref (ad 1 0)) rfl dX3_wallAt_29 ?_
    refine lv_iload_n hx hb dX3_wallAt_32 rfl (lv_at hl 1 rfl) ?_
    refine ro_VR (As := [.int (nI i)]) (h0 := ad 1 0) (rest := []) (v := some (ad 3 i)) hx hb hml hown hC hS hAb (mJ_get l hP 0 (cX_1 (by decide)) (fun h9 => cX_2 (by decide) h9) (hly 0 (by decide)) i (by first | assumption | omega | (simp only [decide_eq_false_iff_not, decide_eq_true_eq] at *; omega))) kV_X3_327 ⟨rfl, rfl⟩ ⟨Nat.le_of_ble_eq_true rfl, Nat.le_of_ble_eq_true rfl⟩ (hP.recv hC (cX_1 (i := 0) (by decide)) rfl) rfl hl (Nat.le_of_ble_eq_true rfl) ⟨Nat.zero_le _, Nat.zero_le _⟩ dX3_wallAt_33 ?_
    have hg_3 : i < c.R 11 0 := by have := wf.sw; omega
    refine pi_cast (nm := "") hx hb hC hown hP 3 i (cX_3 hg_3) rfl wCl_X3_52 dX3_wallAt_36 ?_
    exact ro_aret (x := some ((ad 3 i))) hx hb hr hlocks hU (by first | rfl | (simp [c_14]; done) | (simp [c_14]; omega) | (simp_all [c_14]; done)) dX3_wallAt_39
  · skip
    exact absurd (c_14.symm.trans (isIn_t hi (by have := wf.sw; have := wf.sh'; have := wf.sl; have := wf.nw; have := wf.nh; have := wf.nl; omega))) (by decide)
set_option maxHeartbeats 4000000 in
set_option maxRecDepth 100000 in
theorem mX3_wallAt_b (l : Launch) (hst : l.stackTraces = false) {E : En} {c : Cy} {ly : Ly} {L : List Nat} {ad : Nat → Nat → Nat} {H : Heap} (hX : PX E c ly L ad H) (v : Int32) (hv : isInS v (nI 0) (nI (c.R 10 0) - nI 1) = false) : ExR l yX3_wallAt cX3_wallAt 2 (.object "Wallcode$Wall") 6 90 [.ref (ad 0 0), .int v] E H 1 (fun _ => xIO) 0 := by
  obtain ⟨hP, hly, hLb, wf⟩ := id hX
  refine ex_of (by decide) (Nat.le_of_ble_eq_true rfl) ?_
  intro p e s m below meth co ls hx hb hr hml hown hlocks hout hC hU hl
  have hS : va_S noA s.heap H [] := by rw [hU]; exact va_S.rf
  have hAb : ∀ q, noA q → bA E q := fun _ h => h.elim
  have hl : lv_has ls 2 [(0, .ref (ad 0 0)), (1, .int v)] := hl
  refine lv_iload_n hx hb dX3_wallAt_0 rfl (lv_at hl 1 rfl) ?_
  refine lv_iconstN hx hb 0 dX3_wallAt_1 (by decide) ?_
  refine lv_aload_n hx hb dX3_wallAt_2 rfl (lv_at hl 0 rfl) ?_
  refine pi_get hx hb hC hown hP fL_X3_10 0 0 cX_0 (v := .ref (ad 1 0)) rfl dX3_wallAt_3 ?_
  refine ro_V (As := []) (h0 := ad 1 0) (rest := [.int (nI 0), .int v]) (v := nI (c.R 10 0)) hx hb hml hown hC hS hAb (mJ_size l hP 0 (cX_1 (by decide))) kV_X3_43 ⟨rfl, rfl⟩ ⟨Nat.le_of_ble_eq_true rfl, Nat.le_of_ble_eq_true rfl⟩ (hP.recv hC (cX_1 (i := 0) (by decide)) rfl) rfl hl (Nat.le_of_ble_eq_true rfl) ⟨Nat.zero_le _, Nat.zero_le _⟩ dX3_wallAt_6 ?_
  have g_1 := wf.sw
  have g_2 := wf.nw
  refine lv_iconstN hx hb 1 dX3_wallAt_9 (by decide) ?_
  refine lv_isub hx hb dX3_wallAt_10 ?_
  refine ro_S (As := [.int v, .int (nI 0), .int ((nI (c.R 10 0)) - (nI 1))]) (rest := []) (v := bI (isInS v (nI 0) ((nI (c.R 10 0)) - (nI 1)))) hx hb hml hown hC hS hAb (mX3_isWithin l v (nI 0) ((nI (c.R 10 0)) - (nI 1)) ) kS_X3_32 ⟨rfl, rfl⟩ ⟨Nat.le_of_ble_eq_true rfl, Nat.le_of_ble_eq_true rfl⟩ rfl hl (Nat.le_of_ble_eq_true rfl) ⟨Nat.zero_le _, Nat.zero_le _⟩ dX3_wallAt_11 ?_
  refine lv_bif_ne (tgt := 28) hx hb dX3_wallAt_14 (by decide) (fun c_14 => ?_) (fun c_14 => ?_)
  · skip
    exact absurd (c_14.symm.trans hv) (by decide)
  · skip
    exact ex_throwR (j := 4) hx hb hst hC hU hown wCl_X3_235 tx_IO (by decide +kernel) rfl (hl.1.trans hml.symm) (Or.inr ⟨dX3_wallAt_21, dX3_wallAt_24, dX3_wallAt_27⟩) dX3_wallAt_17 dX3_wallAt_20 hout ⟨Nat.le_of_ble_eq_true rfl, Nat.le_of_ble_eq_true rfl⟩ hlocks ⟨by decide, rfl⟩
set_option maxHeartbeats 4000000 in
set_option maxRecDepth 100000 in
theorem mX3_handAt_g (l : Launch) {E : En} {c : Cy} {ly : Ly} {L : List Nat} {ad : Nat → Nat → Nat} {H : Heap} (hX : PX E c ly L ad H) (h : Nat) (hh : h < c.R 10 1) : RoR l yX3_handAt cX3_handAt 2 (.object "Wallcode$Hand") (rmk 3 0 0 64) [.ref (ad 0 0), .int (nI h)] E H (some (ad 5 h)) := by
  obtain ⟨hP, hly, hLb, wf⟩ := id hX
  refine ro_of (by decide) (Nat.le_of_ble_eq_true rfl) ?_
  intro p e s m below meth co ls hx hb hr hml hown hlocks hnm hC hU hl
  have hS : va_S noA s.heap H [] := by rw [hU]; exact va_S.rf
  have hAb : ∀ q, noA q → bA E q := fun _ h => h.elim
  have hl : lv_has ls 2 [(0, .ref (ad 0 0)), (1, .int (nI h))] := hl
  refine lv_iload_n hx hb dX3_handAt_0 rfl (lv_at hl 1 rfl) ?_
  refine lv_iconstN hx hb 0 dX3_handAt_1 (by decide) ?_
  refine lv_aload_n hx hb dX3_handAt_2 rfl (lv_at hl 0 rfl) ?_
  refine pi_get hx hb hC hown hP fL_X3_16 0 0 cX_0 (v := .ref (ad 1 1)) rfl dX3_handAt_3 ?_
  refine ro_V (As := []) (h0 := ad 1 1) (rest := [.int (nI 0), .int (nI h)]) (v := nI (c.R 10 1)) hx hb hml hown hC hS hAb (mJ_size l hP 1 (cX_1 (by decide))) kV_X3_43 ⟨rfl, rfl⟩ ⟨Nat.le_of_ble_eq_true rfl, Nat.le_of_ble_eq_true rfl⟩ (hP.recv hC (cX_1 (i := 1) (by decide)) rfl) rfl hl (Nat.le_of_ble_eq_true rfl) ⟨Nat.zero_le _, Nat.zero_le _⟩ dX3_handAt_6 ?_
  have g_1 := wf.sh'
  have g_2 := wf.nh
  refine lv_iconstN hx hb 1 dX3_handAt_9 (by decide) ?_
  refine lv_isub hx hb dX3_handAt_10 ?_
  refine ro_S (As := [.int (nI h), .int (nI 0), .int ((nI (c.R 10 1)) - (nI 1))]) (rest := []) (v := bI (isInS (nI h) (nI 0) ((nI (c.R 10 1)) - (nI 1)))) hx hb hml hown hC hS hAb (mX3_isWithin l (nI h) (nI 0) ((nI (c.R 10 1)) - (nI 1)) ) kS_X3_32 ⟨rfl, rfl⟩ ⟨Nat.le_of_ble_eq_true rfl, Nat.le_of_ble_eq_true rfl⟩ rfl hl (Nat.le_of_ble_eq_true rfl) ⟨Nat.zero_le _, Nat.zero_le _⟩ dX3_handAt_11 ?_
  refine lv_bif_ne (tgt := 28) hx hb dX3_handAt_14 (by decide) (fun c_14 => ?_) (fun c_14 => ?_)
  · skip
    refine lv_aload_n hx hb dX3_handAt_28 rfl (lv_at hl 0 rfl) ?_
    refine pi_get hx hb hC hown hP fL_X3_16 0 0 cX_0 (v := .ref (ad 1 1)) rfl dX3_handAt_29 ?_
    refine lv_iload_n hx hb dX3_handAt_32 rfl (lv_at hl 1 rfl) ?_
    refine ro_VR (As := [.int (nI h)]) (h0 := ad 1 1) (rest := []) (v := some (ad 5 h)) hx hb hml hown hC hS hAb (mJ_get l hP 1 (cX_1 (by decide)) (fun h9 => cX_2 (by decide) h9) (hly 1 (by decide)) h (by first | assumption | omega | (simp only [decide_eq_false_iff_not, decide_eq_true_eq] at *; omega))) kV_X3_327 ⟨rfl, rfl⟩ ⟨Nat.le_of_ble_eq_true rfl, Nat.le_of_ble_eq_true rfl⟩ (hP.recv hC (cX_1 (i := 1) (by decide)) rfl) rfl hl (Nat.le_of_ble_eq_true rfl) ⟨Nat.zero_le _, Nat.zero_le _⟩ dX3_handAt_33 ?_
    have hg_3 : h < c.R 11 1 := by have := wf.sh'; omega
    refine pi_cast (nm := "") hx hb hC hown hP 5 h (cX_5 hg_3) rfl wCl_X3_65 dX3_handAt_36 ?_
    exact ro_aret (x := some ((ad 5 h))) hx hb hr hlocks hU (by first | rfl | (simp [c_14]; done) | (simp [c_14]; omega) | (simp_all [c_14]; done)) dX3_handAt_39
  · skip
    exact absurd (c_14.symm.trans (isIn_t hh (by have := wf.sw; have := wf.sh'; have := wf.sl; have := wf.nw; have := wf.nh; have := wf.nl; omega))) (by decide)
set_option maxHeartbeats 4000000 in
set_option maxRecDepth 100000 in
theorem mX3_handAt_b (l : Launch) (hst : l.stackTraces = false) {E : En} {c : Cy} {ly : Ly} {L : List Nat} {ad : Nat → Nat → Nat} {H : Heap} (hX : PX E c ly L ad H) (v : Int32) (hv : isInS v (nI 0) (nI (c.R 10 1) - nI 1) = false) : ExR l yX3_handAt cX3_handAt 2 (.object "Wallcode$Hand") 6 90 [.ref (ad 0 0), .int v] E H 1 (fun _ => xIO) 0 := by
  obtain ⟨hP, hly, hLb, wf⟩ := id hX
  refine ex_of (by decide) (Nat.le_of_ble_eq_true rfl) ?_
  intro p e s m below meth co ls hx hb hr hml hown hlocks hout hC hU hl
  have hS : va_S noA s.heap H [] := by rw [hU]; exact va_S.rf
  have hAb : ∀ q, noA q → bA E q := fun _ h => h.elim
  have hl : lv_has ls 2 [(0, .ref (ad 0 0)), (1, .int v)] := hl
  refine lv_iload_n hx hb dX3_handAt_0 rfl (lv_at hl 1 rfl) ?_
  refine lv_iconstN hx hb 0 dX3_handAt_1 (by decide) ?_
  refine lv_aload_n hx hb dX3_handAt_2 rfl (lv_at hl 0 rfl) ?_
  refine pi_get hx hb hC hown hP fL_X3_16 0 0 cX_0 (v := .ref (ad 1 1)) rfl dX3_handAt_3 ?_
  refine ro_V (As := []) (h0 := ad 1 1) (rest := [.int (nI 0), .int v]) (v := nI (c.R 10 1)) hx hb hml hown hC hS hAb (mJ_size l hP 1 (cX_1 (by decide))) kV_X3_43 ⟨rfl, rfl⟩ ⟨Nat.le_of_ble_eq_true rfl, Nat.le_of_ble_eq_true rfl⟩ (hP.recv hC (cX_1 (i := 1) (by decide)) rfl) rfl hl (Nat.le_of_ble_eq_true rfl) ⟨Nat.zero_le _, Nat.zero_le _⟩ dX3_handAt_6 ?_
  have g_1 := wf.sh'
  have g_2 := wf.nh
  refine lv_iconstN hx hb 1 dX3_handAt_9 (by decide) ?_
  refine lv_isub hx hb dX3_handAt_10 ?_
  refine ro_S (As := [.int v, .int (nI 0), .int ((nI (c.R 10 1)) - (nI 1))]) (rest := []) (v := bI (isInS v (nI 0) ((nI (c.R 10 1)) - (nI 1)))) hx hb hml hown hC hS hAb (mX3_isWithin l v (nI 0) ((nI (c.R 10 1)) - (nI 1)) ) kS_X3_32 ⟨rfl, rfl⟩ ⟨Nat.le_of_ble_eq_true rfl, Nat.le_of_ble_eq_true rfl⟩ rfl hl (Nat.le_of_ble_eq_true rfl) ⟨Nat.zero_le _, Nat.zero_le _⟩ dX3_handAt_11 ?_
  refine lv_bif_ne (tgt := 28) hx hb dX3_handAt_14 (by decide) (fun c_14 => ?_) (fun c_14 => ?_)
  · skip
    exact absurd (c_14.symm.trans hv) (by decide)
  · skip
    exact ex_throwR (j := 9) hx hb hst hC hU hown wCl_X3_235 tx_IO (by decide +kernel) rfl (hl.1.trans hml.symm) (Or.inr ⟨dX3_handAt_21, dX3_handAt_24, dX3_handAt_27⟩) dX3_handAt_17 dX3_handAt_20 hout ⟨Nat.le_of_ble_eq_true rfl, Nat.le_of_ble_eq_true rfl⟩ hlocks ⟨by decide, rfl⟩
set_option maxHeartbeats 4000000 in
set_option maxRecDepth 100000 in
theorem mX3_layerAt_g (l : Launch) {E : En} {c : Cy} {ly : Ly} {L : List Nat} {ad : Nat → Nat → Nat} {H : Heap} (hX : PX E c ly L ad H) (j : Nat) (hj : j < c.R 10 2) : RoR l yX3_layerAt cX3_layerAt 2 (.object "Wallcode$Layer") (rmk 3 0 0 64) [.ref (ad 0 0), .int (nI j)] E H (some (ad 7 j)) := by
  obtain ⟨hP, hly, hLb, wf⟩ := id hX
  refine ro_of (by decide) (Nat.le_of_ble_eq_true rfl) ?_
  intro p e s m below meth co ls hx hb hr hml hown hlocks hnm hC hU hl
  have hS : va_S noA s.heap H [] := by rw [hU]; exact va_S.rf
  have hAb : ∀ q, noA q → bA E q := fun _ h => h.elim
  have hl : lv_has ls 2 [(0, .ref (ad 0 0)), (1, .int (nI j))] := hl
  refine lv_iload_n hx hb dX3_layerAt_0 rfl (lv_at hl 1 rfl) ?_
  refine lv_iconstN hx hb 0 dX3_layerAt_1 (by decide) ?_
  refine lv_aload_n hx hb dX3_layerAt_2 rfl (lv_at hl 0 rfl) ?_
  refine pi_get hx hb hC hown hP fL_X3_19 0 0 cX_0 (v := .ref (ad 1 2)) rfl dX3_layerAt_3 ?_
  refine ro_V (As := []) (h0 := ad 1 2) (rest := [.int (nI 0), .int (nI j)]) (v := nI (c.R 10 2)) hx hb hml hown hC hS hAb (mJ_size l hP 2 (cX_1 (by decide))) kV_X3_43 ⟨rfl, rfl⟩ ⟨Nat.le_of_ble_eq_true rfl, Nat.le_of_ble_eq_true rfl⟩ (hP.recv hC (cX_1 (i := 2) (by decide)) rfl) rfl hl (Nat.le_of_ble_eq_true rfl) ⟨Nat.zero_le _, Nat.zero_le _⟩ dX3_layerAt_6 ?_
  have g_1 := wf.sl
  have g_2 := wf.nl
  refine lv_iconstN hx hb 1 dX3_layerAt_9 (by decide) ?_
  refine lv_isub hx hb dX3_layerAt_10 ?_
  refine ro_S (As := [.int (nI j), .int (nI 0), .int ((nI (c.R 10 2)) - (nI 1))]) (rest := []) (v := bI (isInS (nI j) (nI 0) ((nI (c.R 10 2)) - (nI 1)))) hx hb hml hown hC hS hAb (mX3_isWithin l (nI j) (nI 0) ((nI (c.R 10 2)) - (nI 1)) ) kS_X3_32 ⟨rfl, rfl⟩ ⟨Nat.le_of_ble_eq_true rfl, Nat.le_of_ble_eq_true rfl⟩ rfl hl (Nat.le_of_ble_eq_true rfl) ⟨Nat.zero_le _, Nat.zero_le _⟩ dX3_layerAt_11 ?_
  refine lv_bif_ne (tgt := 28) hx hb dX3_layerAt_14 (by decide) (fun c_14 => ?_) (fun c_14 => ?_)
  · skip
    refine lv_aload_n hx hb dX3_layerAt_28 rfl (lv_at hl 0 rfl) ?_
    refine pi_get hx hb hC hown hP fL_X3_19 0 0 cX_0 (v := .ref (ad 1 2)) rfl dX3_layerAt_29 ?_
    refine lv_iload_n hx hb dX3_layerAt_32 rfl (lv_at hl 1 rfl) ?_
    refine ro_VR (As := [.int (nI j)]) (h0 := ad 1 2) (rest := []) (v := some (ad 7 j)) hx hb hml hown hC hS hAb (mJ_get l hP 2 (cX_1 (by decide)) (fun h9 => cX_2 (by decide) h9) (hly 2 (by decide)) j (by first | assumption | omega | (simp only [decide_eq_false_iff_not, decide_eq_true_eq] at *; omega))) kV_X3_327 ⟨rfl, rfl⟩ ⟨Nat.le_of_ble_eq_true rfl, Nat.le_of_ble_eq_true rfl⟩ (hP.recv hC (cX_1 (i := 2) (by decide)) rfl) rfl hl (Nat.le_of_ble_eq_true rfl) ⟨Nat.zero_le _, Nat.zero_le _⟩ dX3_layerAt_33 ?_
    have hg_3 : j < c.R 11 2 := by have := wf.sl; omega
    refine pi_cast (nm := "") hx hb hC hown hP 7 j (cX_7 hg_3) rfl wCl_X3_118 dX3_layerAt_36 ?_
    exact ro_aret (x := some ((ad 7 j))) hx hb hr hlocks hU (by first | rfl | (simp [c_14]; done) | (simp [c_14]; omega) | (simp_all [c_14]; done)) dX3_layerAt_39
  · skip
    exact absurd (c_14.symm.trans (isIn_t hj (by have := wf.sw; have := wf.sh'; have := wf.sl; have := wf.nw; have := wf.nh; have := wf.nl; omega))) (by decide)
set_option maxHeartbeats 4000000 in
set_option maxRecDepth 100000 in
theorem mX3_layerAt_b (l : Launch) (hst : l.stackTraces = false) {E : En} {c : Cy} {ly : Ly} {L : List Nat} {ad : Nat → Nat → Nat} {H : Heap} (hX : PX E c ly L ad H) (v : Int32) (hv : isInS v (nI 0) (nI (c.R 10 2) - nI 1) = false) : ExR l yX3_layerAt cX3_layerAt 2 (.object "Wallcode$Layer") 6 90 [.ref (ad 0 0), .int v] E H 1 (fun _ => xIO) 0 := by
  obtain ⟨hP, hly, hLb, wf⟩ := id hX
  refine ex_of (by decide) (Nat.le_of_ble_eq_true rfl) ?_
  intro p e s m below meth co ls hx hb hr hml hown hlocks hout hC hU hl
  have hS : va_S noA s.heap H [] := by rw [hU]; exact va_S.rf
  have hAb : ∀ q, noA q → bA E q := fun _ h => h.elim
  have hl : lv_has ls 2 [(0, .ref (ad 0 0)), (1, .int v)] := hl
  refine lv_iload_n hx hb dX3_layerAt_0 rfl (lv_at hl 1 rfl) ?_
  refine lv_iconstN hx hb 0 dX3_layerAt_1 (by decide) ?_
  refine lv_aload_n hx hb dX3_layerAt_2 rfl (lv_at hl 0 rfl) ?_
  refine pi_get hx hb hC hown hP fL_X3_19 0 0 cX_0 (v := .ref (ad 1 2)) rfl dX3_layerAt_3 ?_
  refine ro_V (As := []) (h0 := ad 1 2) (rest := [.int (nI 0), .int v]) (v := nI (c.R 10 2)) hx hb hml hown hC hS hAb (mJ_size l hP 2 (cX_1 (by decide))) kV_X3_43 ⟨rfl, rfl⟩ ⟨Nat.le_of_ble_eq_true rfl, Nat.le_of_ble_eq_true rfl⟩ (hP.recv hC (cX_1 (i := 2) (by decide)) rfl) rfl hl (Nat.le_of_ble_eq_true rfl) ⟨Nat.zero_le _, Nat.zero_le _⟩ dX3_layerAt_6 ?_
  have g_1 := wf.sl
  have g_2 := wf.nl
  refine lv_iconstN hx hb 1 dX3_layerAt_9 (by decide) ?_
  refine lv_isub hx hb dX3_layerAt_10 ?_
  refine ro_S (As := [.int v, .int (nI 0), .int ((nI (c.R 10 2)) - (nI 1))]) (rest := []) (v := bI (isInS v (nI 0) ((nI (c.R 10 2)) - (nI 1)))) hx hb hml hown hC hS hAb (mX3_isWithin l v (nI 0) ((nI (c.R 10 2)) - (nI 1)) ) kS_X3_32 ⟨rfl, rfl⟩ ⟨Nat.le_of_ble_eq_true rfl, Nat.le_of_ble_eq_true rfl⟩ rfl hl (Nat.le_of_ble_eq_true rfl) ⟨Nat.zero_le _, Nat.zero_le _⟩ dX3_layerAt_11 ?_
  refine lv_bif_ne (tgt := 28) hx hb dX3_layerAt_14 (by decide) (fun c_14 => ?_) (fun c_14 => ?_)
  · skip
    exact absurd (c_14.symm.trans hv) (by decide)
  · skip
    exact ex_throwR (j := 7) hx hb hst hC hU hown wCl_X3_235 tx_IO (by decide +kernel) rfl (hl.1.trans hml.symm) (Or.inr ⟨dX3_layerAt_21, dX3_layerAt_24, dX3_layerAt_27⟩) dX3_layerAt_17 dX3_layerAt_20 hout ⟨Nat.le_of_ble_eq_true rfl, Nat.le_of_ble_eq_true rfl⟩ hlocks ⟨by decide, rfl⟩
set_option maxHeartbeats 4000000 in
set_option maxRecDepth 100000 in
theorem mX3_ofWall_g (l : Launch) {E : En} {c : Cy} {ly : Ly} {L : List Nat} {ad : Nat → Nat → Nat} {H : Heap} (hX : PX E c ly L ad H) (i w : Nat) (hi : i < c.R 10 0) (hw : w ≤ 6) : RoI l yX3_ofWall cX3_ofWall 4 .int (rmk 5 0 0 110) [.ref (ad 0 0), .int (nI i), .int (nI w)] E H (owS c i (nI w)) := by
  obtain ⟨hP, hly, hLb, wf⟩ := id hX
  refine ro_of (by decide) (Nat.le_of_ble_eq_true rfl) ?_
  intro p e s m below meth co ls hx hb hr hml hown hlocks hnm hC hU hl
  have hS : va_S noA s.heap H [] := by rw [hU]; exact va_S.rf
  have hAb : ∀ q, noA q → bA E q := fun _ h => h.elim
  have hl : lv_has ls 4 [(0, .ref (ad 0 0)), (1, .int (nI i)), (2, .int (nI w))] := hl
  refine lv_aload_n hx hb dX3_ofWall_0 rfl (lv_at hl 0 rfl) ?_
  refine lv_iload_n hx hb dX3_ofWall_1 rfl (lv_at hl 1 rfl) ?_
  refine ro_VR (As := [.int (nI i)]) (h0 := ad 0 0) (rest := []) (v := some (ad 3 i)) hx hb hml hown hC hS hAb (mX3_wallAt_g l hX i (by first | assumption | omega | (simp only [decide_eq_false_iff_not, decide_eq_true_eq] at *; omega))) kV_X3_68 ⟨rfl, rfl⟩ ⟨Nat.le_of_ble_eq_true rfl, Nat.le_of_ble_eq_true rfl⟩ (hP.recv hC cX_0 rfl) rfl hl (Nat.le_of_ble_eq_true rfl) ⟨Nat.zero_le _, Nat.zero_le _⟩ dX3_ofWall_2 ?_
  have hg_1 : i < c.R 11 0 := by have := wf.sw; have := wf.sh'; have := wf.sl; omega
  refine lv_astore_n (lv' := [(3, .ref (ad 3 i)), (0, .ref (ad 0 0)), (1, .int (nI i)), (2, .int (nI w))]) hx hb dX3_ofWall_5 rfl hl (by decide) rfl (fun ls hl => ?_)
  refine lv_iload_n hx hb dX3_ofWall_6 rfl (lv_at hl 3 rfl) ?_
  by_cases c_7 : nI w = nI 0
  · skip
    refine lv_tableIn (tgt := 48) (off := 41) hx hb dX3_ofWall_7 (by rw [c_7]; decide) (by rw [c_7]; decide) (by rw [c_7]; decide) (by decide) ?_
    refine lv_aload_n hx hb dX3_ofWall_48 rfl (lv_at hl 0 rfl) ?_
    refine pi_get hx hb hC hown hP fL_X3_154 3 i (cX_3 hg_1) (v := .int (nI (c.R 1 i))) rfl dX3_ofWall_49 ?_
    have g_2 := wf.wd hg_1
    exact ro_iret (x := nI (c.R 1 i)) hx hb hr hlocks hU (by rw [c_7]; first | rfl | (show _ = bI _; rw [c_83]; rfl) | (show _ = bI _; rw [c_116]; rfl) | (show _ = bI _; rw [c_129]; rfl) | (show _ = bI _; rw [c_142]; rfl)) dX3_ofWall_52
  have c_7n0 := c_7
  clear c_7
  by_cases c_7 : nI w = nI 1
  · skip
    refine lv_tableIn (tgt := 53) (off := 46) hx hb dX3_ofWall_7 (by rw [c_7]; decide) (by rw [c_7]; decide) (by rw [c_7]; decide) (by decide) ?_
    refine lv_aload_n hx hb dX3_ofWall_53 rfl (lv_at hl 0 rfl) ?_
    refine pi_get hx hb hC hown hP fL_X3_218 3 i (cX_3 hg_1) (v := .int (c.I 2 i)) rfl dX3_ofWall_54 ?_
    exact ro_iret (x := c.I 2 i) hx hb hr hlocks hU (by rw [c_7]; first | rfl | (show _ = bI _; rw [c_83]; rfl) | (show _ = bI _; rw [c_116]; rfl) | (show _ = bI _; rw [c_129]; rfl) | (show _ = bI _; rw [c_142]; rfl)) dX3_ofWall_57
  have c_7n1 := c_7
  clear c_7
  by_cases c_7 : nI w = nI 2
  · skip
    refine lv_tableIn (tgt := 58) (off := 51) hx hb dX3_ofWall_7 (by rw [c_7]; decide) (by rw [c_7]; decide) (by rw [c_7]; decide) (by decide) ?_
    refine lv_aload_n hx hb dX3_ofWall_58 rfl (lv_at hl 0 rfl) ?_
    refine pi_get hx hb hC hown hP fL_X3_221 3 i (cX_3 hg_1) (v := .int (c.I 3 i)) rfl dX3_ofWall_59 ?_
    exact ro_iret (x := c.I 3 i) hx hb hr hlocks hU (by rw [c_7]; first | rfl | (show _ = bI _; rw [c_83]; rfl) | (show _ = bI _; rw [c_116]; rfl) | (show _ = bI _; rw [c_129]; rfl) | (show _ = bI _; rw [c_142]; rfl)) dX3_ofWall_62
  have c_7n2 := c_7
  clear c_7
  by_cases c_7 : nI w = nI 3
  · skip
    refine lv_tableIn (tgt := 63) (off := 56) hx hb dX3_ofWall_7 (by rw [c_7]; decide) (by rw [c_7]; decide) (by rw [c_7]; decide) (by decide) ?_
    refine lv_aload_n hx hb dX3_ofWall_63 rfl (lv_at hl 0 rfl) ?_
    refine lv_aload_n hx hb dX3_ofWall_64 rfl (lv_at hl 1 rfl) ?_
    refine pi_get hx hb hC hown hP fL_X3_22 0 0 cX_0 (v := .int (nI (c.R 0 0))) rfl dX3_ofWall_65 ?_
    have g_3 := wf.nt
    refine ro_V (As := [.int (nI (c.R 0 0))]) (h0 := ad 3 i) (rest := []) (v := pcS c i (nI (c.R 0 0))) hx hb hml hown hC hS hAb (mX2_permittedCrew l hX i (nI (c.R 0 0)) hg_1) kV_X3_74 ⟨rfl, rfl⟩ ⟨Nat.le_of_ble_eq_true rfl, Nat.le_of_ble_eq_true rfl⟩ (hP.recv hC (cX_3 hg_1) rfl) rfl hl (Nat.le_of_ble_eq_true rfl) ⟨Nat.zero_le _, Nat.zero_le _⟩ dX3_ofWall_68 ?_
    exact ro_iret (x := pcS c i (nI (c.R 0 0))) hx hb hr hlocks hU (by rw [c_7]; first | rfl | (show _ = bI _; rw [c_83]; rfl) | (show _ = bI _; rw [c_116]; rfl) | (show _ = bI _; rw [c_129]; rfl) | (show _ = bI _; rw [c_142]; rfl)) dX3_ofWall_71
  have c_7n3 := c_7
  clear c_7
  by_cases c_7 : nI w = nI 4
  · skip
    refine lv_tableIn (tgt := 72) (off := 65) hx hb dX3_ofWall_7 (by rw [c_7]; decide) (by rw [c_7]; decide) (by rw [c_7]; decide) (by decide) ?_
    refine lv_aload_n hx hb dX3_ofWall_72 rfl (lv_at hl 0 rfl) ?_
    refine ro_V (As := []) (h0 := ad 3 i) (rest := []) (v := nI (cntN (pntB c i) (c.R 1 i))) hx hb hml hown hC hS hAb (mX2_paintedCells l hX i hg_1) kV_X3_224 ⟨rfl, rfl⟩ ⟨Nat.le_of_ble_eq_true rfl, Nat.le_of_ble_eq_true rfl⟩ (hP.recv hC (cX_3 hg_1) rfl) rfl hl (Nat.le_of_ble_eq_true rfl) ⟨Nat.zero_le _, Nat.zero_le _⟩ dX3_ofWall_73 ?_
    exact ro_iret (x := nI (cntN (pntB c i) (c.R 1 i))) hx hb hr hlocks hU (by rw [c_7]; first | rfl | (show _ = bI _; rw [c_83]; rfl) | (show _ = bI _; rw [c_116]; rfl) | (show _ = bI _; rw [c_129]; rfl) | (show _ = bI _; rw [c_142]; rfl)) dX3_ofWall_76
  have c_7n4 := c_7
  clear c_7
  by_cases c_7 : nI w = nI 5
  · skip
    refine lv_tableIn (tgt := 77) (off := 70) hx hb dX3_ofWall_7 (by rw [c_7]; decide) (by rw [c_7]; decide) (by rw [c_7]; decide) (by decide) ?_
    refine lv_aload_n hx hb dX3_ofWall_77 rfl (lv_at hl 1 rfl) ?_
    refine lv_aload_n hx hb dX3_ofWall_78 rfl (lv_at hl 0 rfl) ?_
    refine ro_V (As := [.ref (ad 3 i)]) (h0 := ad 0 0) (rest := []) (v := eyS c i) hx hb hml hown hC hS hAb (mX3_eyesoreOf l hX i hg_1) kV_X3_227 ⟨rfl, rfl⟩ ⟨Nat.le_of_ble_eq_true rfl, Nat.le_of_ble_eq_true rfl⟩ (hP.recv hC cX_0 rfl) rfl hl (Nat.le_of_ble_eq_true rfl) ⟨Nat.zero_le _, Nat.zero_le _⟩ dX3_ofWall_79 ?_
    exact ro_iret (x := eyS c i) hx hb hr hlocks hU (by rw [c_7]; first | rfl | (show _ = bI _; rw [c_83]; rfl) | (show _ = bI _; rw [c_116]; rfl) | (show _ = bI _; rw [c_129]; rfl) | (show _ = bI _; rw [c_142]; rfl)) dX3_ofWall_82
  have c_7n5 := c_7
  clear c_7
  by_cases c_7 : nI w = nI 6
  · skip
    refine lv_tableIn (tgt := 83) (off := 76) hx hb dX3_ofWall_7 (by rw [c_7]; decide) (by rw [c_7]; decide) (by rw [c_7]; decide) (by decide) ?_
    refine lv_aload_n hx hb dX3_ofWall_83 rfl (lv_at hl 1 rfl) ?_
    refine lv_aload_n hx hb dX3_ofWall_84 rfl (lv_at hl 0 rfl) ?_
    refine ro_V (As := [.ref (ad 3 i)]) (h0 := ad 0 0) (rest := []) (v := nI (lsoS c i)) hx hb hml hown hC hS hAb (mX3_layersSeenOn l hX i hg_1) kV_X3_230 ⟨rfl, rfl⟩ ⟨Nat.le_of_ble_eq_true rfl, Nat.le_of_ble_eq_true rfl⟩ (hP.recv hC cX_0 rfl) rfl hl (Nat.le_of_ble_eq_true rfl) ⟨Nat.zero_le _, Nat.zero_le _⟩ dX3_ofWall_85 ?_
    exact ro_iret (x := nI (lsoS c i)) hx hb hr hlocks hU (by rw [c_7]; first | rfl | (show _ = bI _; rw [c_83]; rfl) | (show _ = bI _; rw [c_116]; rfl) | (show _ = bI _; rw [c_129]; rfl) | (show _ = bI _; rw [c_142]; rfl)) dX3_ofWall_88
  have c_7n6 := c_7
  clear c_7
  exact (sw_dead 7 (w := w) (by omega) (fun k hk => by match k, hk with | 0, _ => exact c_7n0 | 1, _ => exact c_7n1 | 2, _ => exact c_7n2 | 3, _ => exact c_7n3 | 4, _ => exact c_7n4 | 5, _ => exact c_7n5 | 6, _ => exact c_7n6)).elim
set_option maxHeartbeats 4000000 in
set_option maxRecDepth 100000 in
theorem mX3_ofWall_b1 (l : Launch) (hst : l.stackTraces = false) {E : En} {c : Cy} {ly : Ly} {L : List Nat} {ad : Nat → Nat → Nat} {H : Heap} (hX : PX E c ly L ad H) (v w : Int32) (hv : isInS v (nI 0) (nI (c.R 10 0) - nI 1) = false) : ExI l yX3_ofWall cX3_ofWall 4 .int 7 111 [.ref (ad 0 0), .int v, .int w] E H 1 (fun _ => xIO) 0 := by
  obtain ⟨hP, hly, hLb, wf⟩ := id hX
  refine ex_of (by decide) (Nat.le_of_ble_eq_true rfl) ?_
  intro p e s m below meth co ls hx hb hr hml hown hlocks hout hC hU hl
  have hS : va_S noA s.heap H [] := by rw [hU]; exact va_S.rf
  have hAb : ∀ q, noA q → bA E q := fun _ h => h.elim
  have hl : lv_has ls 4 [(0, .ref (ad 0 0)), (1, .int v), (2, .int w)] := hl
  refine lv_aload_n hx hb dX3_ofWall_0 rfl (lv_at hl 0 rfl) ?_
  refine lv_iload_n hx hb dX3_ofWall_1 rfl (lv_at hl 1 rfl) ?_
  exact ex_VR (As := [.int v]) (h0 := ad 0 0) (rest := []) hx hb hml hown hlocks hout hC hU (mX3_wallAt_b l hst hX v (by first | assumption | omega)) kV_X3_68 ⟨Nat.le_of_ble_eq_true rfl, Nat.le_of_ble_eq_true rfl⟩ (fun _ => ⟨by decide, rfl⟩) (hP.recv hC cX_0 rfl) rfl hl (Nat.le_of_ble_eq_true rfl) dX3_ofWall_2 (fun h => absurd h (by decide))
set_option maxHeartbeats 4000000 in
set_option maxRecDepth 100000 in
theorem mX3_ofWall_b2 (l : Launch) (hst : l.stackTraces = false) {E : En} {c : Cy} {ly : Ly} {L : List Nat} {ad : Nat → Nat → Nat} {H : Heap} (hX : PX E c ly L ad H) (i : Nat) (w : Int32) (hi : i < c.R 10 0) (hw : isInS w (nI 0) (nI 6) = false) : ExI l yX3_ofWall cX3_ofWall 4 .int 6 90 [.ref (ad 0 0), .int (nI i), .int w] E H 1 (fun _ => xIA) 0 := by
  obtain ⟨hP, hly, hLb, wf⟩ := id hX
  refine ex_of (by decide) (Nat.le_of_ble_eq_true rfl) ?_
  intro p e s m below meth co ls hx hb hr hml hown hlocks hout hC hU hl
  have hS : va_S noA s.heap H [] := by rw [hU]; exact va_S.rf
  have hAb : ∀ q, noA q → bA E q := fun _ h => h.elim
  have hl : lv_has ls 4 [(0, .ref (ad 0 0)), (1, .int (nI i)), (2, .int w)] := hl
  refine lv_aload_n hx hb dX3_ofWall_0 rfl (lv_at hl 0 rfl) ?_
  refine lv_iload_n hx hb dX3_ofWall_1 rfl (lv_at hl 1 rfl) ?_
  refine ro_VR (As := [.int (nI i)]) (h0 := ad 0 0) (rest := []) (v := some (ad 3 i)) hx hb hml hown hC hS hAb (mX3_wallAt_g l hX i (by first | assumption | omega | (simp only [decide_eq_false_iff_not, decide_eq_true_eq] at *; omega))) kV_X3_68 ⟨rfl, rfl⟩ ⟨Nat.le_of_ble_eq_true rfl, Nat.le_of_ble_eq_true rfl⟩ (hP.recv hC cX_0 rfl) rfl hl (Nat.le_of_ble_eq_true rfl) ⟨Nat.zero_le _, Nat.zero_le _⟩ dX3_ofWall_2 ?_
  have hg_1 : i < c.R 11 0 := by have := wf.sw; have := wf.sh'; have := wf.sl; omega
  refine lv_astore_n (lv' := [(3, .ref (ad 3 i)), (0, .ref (ad 0 0)), (1, .int (nI i)), (2, .int w)]) hx hb dX3_ofWall_5 rfl hl (by decide) rfl (fun ls hl => ?_)
  refine lv_iload_n hx hb dX3_ofWall_6 rfl (lv_at hl 3 rfl) ?_
  by_cases c_7 : w = nI 0
  · skip
    exact absurd hw (by rw [c_7]; decide)
  have c_7n0 := c_7
  clear c_7
  by_cases c_7 : w = nI 1
  · skip
    exact absurd hw (by rw [c_7]; decide)
  have c_7n1 := c_7
  clear c_7
  by_cases c_7 : w = nI 2
  · skip
    exact absurd hw (by rw [c_7]; decide)
  have c_7n2 := c_7
  clear c_7
  by_cases c_7 : w = nI 3
  · skip
    exact absurd hw (by rw [c_7]; decide)
  have c_7n3 := c_7
  clear c_7
  by_cases c_7 : w = nI 4
  · skip
    exact absurd hw (by rw [c_7]; decide)
  have c_7n4 := c_7
  clear c_7
  by_cases c_7 : w = nI 5
  · skip
    exact absurd hw (by rw [c_7]; decide)
  have c_7n5 := c_7
  clear c_7
  by_cases c_7 : w = nI 6
  · skip
    exact absurd hw (by rw [c_7]; decide)
  have c_7n6 := c_7
  clear c_7
  refine lv_tableOut (tgt := 89) hx hb dX3_ofWall_7 (sw_out 7 (fun k hk => by match k, hk with | 0, _ => exact c_7n0 | 1, _ => exact c_7n1 | 2, _ => exact c_7n2 | 3, _ => exact c_7n3 | 4, _ => exact c_7n4 | 5, _ => exact c_7n5 | 6, _ => exact c_7n6)) (by decide) ?_
  exact ex_throwR (j := 12) hx hb hst hC hU hown wCl_X3_36 tx_IA (by decide +kernel) rfl (hl.1.trans hml.symm) (Or.inl ⟨dX3_ofWall_93, dX3_ofWall_95, dX3_ofWall_98⟩) dX3_ofWall_89 dX3_ofWall_92 hout ⟨Nat.le_of_ble_eq_true rfl, Nat.le_of_ble_eq_true rfl⟩ hlocks ⟨by decide, rfl⟩
set_option maxHeartbeats 4000000 in
set_option maxRecDepth 100000 in
theorem mX3_ofHand_g (l : Launch) {E : En} {c : Cy} {ly : Ly} {L : List Nat} {ad : Nat → Nat → Nat} {H : Heap} (hX : PX E c ly L ad H) (h w : Nat) (hh : h < c.R 10 1) (hw : w ≤ 10) : RoI l yX3_ofHand cX3_ofHand 4 .int (rmk 4 0 0 89) [.ref (ad 0 0), .int (nI h), .int (nI w)] E H (ohS c h (nI w)) := by
  obtain ⟨hP, hly, hLb, wf⟩ := id hX
  refine ro_of (by decide) (Nat.le_of_ble_eq_true rfl) ?_
  intro p e s m below meth co ls hx hb hr hml hown hlocks hnm hC hU hl
  have hS : va_S noA s.heap H [] := by rw [hU]; exact va_S.rf
  have hAb : ∀ q, noA q → bA E q := fun _ h => h.elim
  have hl : lv_has ls 4 [(0, .ref (ad 0 0)), (1, .int (nI h)), (2, .int (nI w))] := hl
  refine lv_aload_n hx hb dX3_ofHand_0 rfl (lv_at hl 0 rfl) ?_
  refine lv_iload_n hx hb dX3_ofHand_1 rfl (lv_at hl 1 rfl) ?_
  refine ro_VR (As := [.int (nI h)]) (h0 := ad 0 0) (rest := []) (v := some (ad 5 h)) hx hb hml hown hC hS hAb (mX3_handAt_g l hX h (by first | assumption | omega | (simp only [decide_eq_false_iff_not, decide_eq_true_eq] at *; omega))) kV_X3_92 ⟨rfl, rfl⟩ ⟨Nat.le_of_ble_eq_true rfl, Nat.le_of_ble_eq_true rfl⟩ (hP.recv hC cX_0 rfl) rfl hl (Nat.le_of_ble_eq_true rfl) ⟨Nat.zero_le _, Nat.zero_le _⟩ dX3_ofHand_2 ?_
  have hg_1 : h < c.R 11 1 := by have := wf.sw; have := wf.sh'; have := wf.sl; omega
  refine lv_astore_n (lv' := [(3, .ref (ad 5 h)), (0, .ref (ad 0 0)), (1, .int (nI h)), (2, .int (nI w))]) hx hb dX3_ofHand_5 rfl hl (by decide) rfl (fun ls hl => ?_)
  refine lv_iload_n hx hb dX3_ofHand_6 rfl (lv_at hl 3 rfl) ?_
  by_cases c_7 : nI w = nI 0
  · skip
    refine lv_tableIn (tgt := 64) (off := 57) hx hb dX3_ofHand_7 (by rw [c_7]; decide) (by rw [c_7]; decide) (by rw [c_7]; decide) (by decide) ?_
    refine lv_aload_n hx hb dX3_ofHand_64 rfl (lv_at hl 0 rfl) ?_
    refine pi_get hx hb hC hown hP fL_X3_243 5 h (cX_5 hg_1) (v := .int (c.I 8 h)) rfl dX3_ofHand_65 ?_
    exact ro_iret (x := c.I 8 h) hx hb hr hlocks hU (by rw [c_7]; first | rfl | (show _ = bI _; rw [c_83]; rfl) | (show _ = bI _; rw [c_116]; rfl) | (show _ = bI _; rw [c_129]; rfl) | (show _ = bI _; rw [c_142]; rfl)) dX3_ofHand_68
  have c_7n0 := c_7
  clear c_7
  by_cases c_7 : nI w = nI 1
  · skip
    refine lv_tableIn (tgt := 69) (off := 62) hx hb dX3_ofHand_7 (by rw [c_7]; decide) (by rw [c_7]; decide) (by rw [c_7]; decide) (by decide) ?_
    refine lv_aload_n hx hb dX3_ofHand_69 rfl (lv_at hl 0 rfl) ?_
    refine ro_V (As := []) (h0 := ad 5 h) (rest := []) (v := nI (360 - c.R 3 h)) hx hb hml hown hC hS hAb (mX0_minutesLeft l hX h hg_1) kV_X3_109 ⟨rfl, rfl⟩ ⟨Nat.le_of_ble_eq_true rfl, Nat.le_of_ble_eq_true rfl⟩ (hP.recv hC (cX_5 hg_1) rfl) rfl hl (Nat.le_of_ble_eq_true rfl) ⟨Nat.zero_le _, Nat.zero_le _⟩ dX3_ofHand_70 ?_
    exact ro_iret (x := nI (360 - c.R 3 h)) hx hb hr hlocks hU (by rw [c_7]; first | rfl | (show _ = bI _; rw [c_83]; rfl) | (show _ = bI _; rw [c_116]; rfl) | (show _ = bI _; rw [c_129]; rfl) | (show _ = bI _; rw [c_142]; rfl)) dX3_ofHand_73
  have c_7n1 := c_7
  clear c_7
  by_cases c_7 : nI w = nI 2
  · skip
    refine lv_tableIn (tgt := 74) (off := 67) hx hb dX3_ofHand_7 (by rw [c_7]; decide) (by rw [c_7]; decide) (by rw [c_7]; decide) (by decide) ?_
    refine lv_aload_n hx hb dX3_ofHand_74 rfl (lv_at hl 0 rfl) ?_
    refine pi_get hx hb hC hown hP fL_X3_208 5 h (cX_5 hg_1) (v := .int (c.I 11 h)) rfl dX3_ofHand_75 ?_
    exact ro_iret (x := c.I 11 h) hx hb hr hlocks hU (by rw [c_7]; first | rfl | (show _ = bI _; rw [c_83]; rfl) | (show _ = bI _; rw [c_116]; rfl) | (show _ = bI _; rw [c_129]; rfl) | (show _ = bI _; rw [c_142]; rfl)) dX3_ofHand_78
  have c_7n2 := c_7
  clear c_7
  by_cases c_7 : nI w = nI 3
  · skip
    refine lv_tableIn (tgt := 79) (off := 72) hx hb dX3_ofHand_7 (by rw [c_7]; decide) (by rw [c_7]; decide) (by rw [c_7]; decide) (by decide) ?_
    refine lv_aload_n hx hb dX3_ofHand_79 rfl (lv_at hl 0 rfl) ?_
    refine pi_get hx hb hC hown hP fL_X3_246 5 h (cX_5 hg_1) (v := .int (bI (c.B 0 h))) rfl dX3_ofHand_80 ?_
    refine lv_bif_eq (tgt := 90) hx hb dX3_ofHand_83 (by decide) (fun c_83 => ?_) (fun c_83 => ?_)
    · skip
      refine lv_iconstN hx hb 0 dX3_ofHand_90 (by decide) ?_
      exact ro_iret (x := nI 0) hx hb hr hlocks hU (by rw [c_7]; first | rfl | (show _ = bI _; rw [c_83]; rfl) | (show _ = bI _; rw [c_116]; rfl) | (show _ = bI _; rw [c_129]; rfl) | (show _ = bI _; rw [c_142]; rfl)) dX3_ofHand_91
    · skip
      refine lv_iconstN hx hb 1 dX3_ofHand_86 (by decide) ?_
      refine lv_goto (tgt := 91) hx hb dX3_ofHand_87 (by decide) ?_
      exact ro_iret (x := nI 1) hx hb hr hlocks hU (by rw [c_7]; first | rfl | (show _ = bI _; rw [c_83]; rfl) | (show _ = bI _; rw [c_116]; rfl) | (show _ = bI _; rw [c_129]; rfl) | (show _ = bI _; rw [c_142]; rfl)) dX3_ofHand_91
  have c_7n3 := c_7
  clear c_7
  by_cases c_7 : nI w = nI 4
  · skip
    refine lv_tableIn (tgt := 92) (off := 85) hx hb dX3_ofHand_7 (by rw [c_7]; decide) (by rw [c_7]; decide) (by rw [c_7]; decide) (by decide) ?_
    refine lv_aload_n hx hb dX3_ofHand_92 rfl (lv_at hl 1 rfl) ?_
    refine lv_aload_n hx hb dX3_ofHand_93 rfl (lv_at hl 0 rfl) ?_
    refine ro_V (As := [.ref (ad 5 h)]) (h0 := ad 0 0) (rest := []) (v := fmS c h) hx hb hml hown hC hS hAb (mX3_fameOf l hX h hg_1) kV_X3_249 ⟨rfl, rfl⟩ ⟨Nat.le_of_ble_eq_true rfl, Nat.le_of_ble_eq_true rfl⟩ (hP.recv hC cX_0 rfl) rfl hl (Nat.le_of_ble_eq_true rfl) ⟨Nat.zero_le _, Nat.zero_le _⟩ dX3_ofHand_94 ?_
    exact ro_iret (x := fmS c h) hx hb hr hlocks hU (by rw [c_7]; first | rfl | (show _ = bI _; rw [c_83]; rfl) | (show _ = bI _; rw [c_116]; rfl) | (show _ = bI _; rw [c_129]; rfl) | (show _ = bI _; rw [c_142]; rfl)) dX3_ofHand_97
  have c_7n4 := c_7
  clear c_7
  by_cases c_7 : nI w = nI 5
  · skip
    refine lv_tableIn (tgt := 98) (off := 91) hx hb dX3_ofHand_7 (by rw [c_7]; decide) (by rw [c_7]; decide) (by rw [c_7]; decide) (by decide) ?_
    refine lv_aload_n hx hb dX3_ofHand_98 rfl (lv_at hl 1 rfl) ?_
    refine lv_aload_n hx hb dX3_ofHand_99 rfl (lv_at hl 0 rfl) ?_
    refine ro_V (As := [.ref (ad 5 h)]) (h0 := ad 0 0) (rest := []) (v := nI (cntN (lofB c h) (c.R 10 2))) hx hb hml hown hC hS hAb (mX3_layersOf l hX h hg_1) kV_X3_253 ⟨rfl, rfl⟩ ⟨Nat.le_of_ble_eq_true rfl, Nat.le_of_ble_eq_true rfl⟩ (hP.recv hC cX_0 rfl) rfl hl (Nat.le_of_ble_eq_true rfl) ⟨Nat.zero_le _, Nat.zero_le _⟩ dX3_ofHand_100 ?_
    exact ro_iret (x := nI (cntN (lofB c h) (c.R 10 2))) hx hb hr hlocks hU (by rw [c_7]; first | rfl | (show _ = bI _; rw [c_83]; rfl) | (show _ = bI _; rw [c_116]; rfl) | (show _ = bI _; rw [c_129]; rfl) | (show _ = bI _; rw [c_142]; rfl)) dX3_ofHand_103
  have c_7n5 := c_7
  clear c_7
  by_cases c_7 : nI w = nI 6
  · skip
    refine lv_tableIn (tgt := 104) (off := 97) hx hb dX3_ofHand_7 (by rw [c_7]; decide) (by rw [c_7]; decide) (by rw [c_7]; decide) (by decide) ?_
    refine lv_aload_n hx hb dX3_ofHand_104 rfl (lv_at hl 1 rfl) ?_
    refine lv_aload_n hx hb dX3_ofHand_105 rfl (lv_at hl 0 rfl) ?_
    refine ro_V (As := [.ref (ad 5 h)]) (h0 := ad 0 0) (rest := []) (v := nI (cntN (lsfB c h) (c.R 10 2))) hx hb hml hown hC hS hAb (mX3_layersSeenOf l hX h hg_1) kV_X3_256 ⟨rfl, rfl⟩ ⟨Nat.le_of_ble_eq_true rfl, Nat.le_of_ble_eq_true rfl⟩ (hP.recv hC cX_0 rfl) rfl hl (Nat.le_of_ble_eq_true rfl) ⟨Nat.zero_le _, Nat.zero_le _⟩ dX3_ofHand_106 ?_
    exact ro_iret (x := nI (cntN (lsfB c h) (c.R 10 2))) hx hb hr hlocks hU (by rw [c_7]; first | rfl | (show _ = bI _; rw [c_83]; rfl) | (show _ = bI _; rw [c_116]; rfl) | (show _ = bI _; rw [c_129]; rfl) | (show _ = bI _; rw [c_142]; rfl)) dX3_ofHand_109
  have c_7n6 := c_7
  clear c_7
  by_cases c_7 : nI w = nI 7
  · skip
    refine lv_tableIn (tgt := 110) (off := 103) hx hb dX3_ofHand_7 (by rw [c_7]; decide) (by rw [c_7]; decide) (by rw [c_7]; decide) (by decide) ?_
    refine lv_aload_n hx hb dX3_ofHand_110 rfl (lv_at hl 0 rfl) ?_
    refine ro_V (As := []) (h0 := ad 5 h) (rest := []) (v := smI (c.Wr h) 8) hx hb hml hown hC hS hAb (mX0_wrongsDone l hX h hg_1) kV_X3_259 ⟨rfl, rfl⟩ ⟨Nat.le_of_ble_eq_true rfl, Nat.le_of_ble_eq_true rfl⟩ (hP.recv hC (cX_5 hg_1) rfl) rfl hl (Nat.le_of_ble_eq_true rfl) ⟨Nat.zero_le _, Nat.zero_le _⟩ dX3_ofHand_111 ?_
    exact ro_iret (x := smI (c.Wr h) 8) hx hb hr hlocks hU (by rw [c_7]; first | rfl | (show _ = bI _; rw [c_83]; rfl) | (show _ = bI _; rw [c_116]; rfl) | (show _ = bI _; rw [c_129]; rfl) | (show _ = bI _; rw [c_142]; rfl)) dX3_ofHand_114
  have c_7n7 := c_7
  clear c_7
  by_cases c_7 : nI w = nI 8
  · skip
    refine lv_tableIn (tgt := 115) (off := 108) hx hb dX3_ofHand_7 (by rw [c_7]; decide) (by rw [c_7]; decide) (by rw [c_7]; decide) (by decide) ?_
    refine lv_aload_n hx hb dX3_ofHand_115 rfl (lv_at hl 1 rfl) ?_
    refine lv_aload_n hx hb dX3_ofHand_116 rfl (lv_at hl 0 rfl) ?_
    refine ro_V (As := [.ref (ad 5 h)]) (h0 := ad 0 0) (rest := []) (v := smI (fun k => c.Wr k h) (c.R 10 1)) hx hb hml hown hC hS hAb (mX3_wrongsSufferedBy l hX h hg_1) kV_X3_262 ⟨rfl, rfl⟩ ⟨Nat.le_of_ble_eq_true rfl, Nat.le_of_ble_eq_true rfl⟩ (hP.recv hC cX_0 rfl) rfl hl (Nat.le_of_ble_eq_true rfl) ⟨Nat.zero_le _, Nat.zero_le _⟩ dX3_ofHand_117 ?_
    exact ro_iret (x := smI (fun k => c.Wr k h) (c.R 10 1)) hx hb hr hlocks hU (by rw [c_7]; first | rfl | (show _ = bI _; rw [c_83]; rfl) | (show _ = bI _; rw [c_116]; rfl) | (show _ = bI _; rw [c_129]; rfl) | (show _ = bI _; rw [c_142]; rfl)) dX3_ofHand_120
  have c_7n8 := c_7
  clear c_7
  by_cases c_7 : nI w = nI 9
  · skip
    refine lv_tableIn (tgt := 121) (off := 114) hx hb dX3_ofHand_7 (by rw [c_7]; decide) (by rw [c_7]; decide) (by rw [c_7]; decide) (by decide) ?_
    refine lv_aload_n hx hb dX3_ofHand_121 rfl (lv_at hl 0 rfl) ?_
    refine pi_get hx hb hC hown hP fL_X3_176 5 h (cX_5 hg_1) (v := .int (c.I 14 h)) rfl dX3_ofHand_122 ?_
    exact ro_iret (x := c.I 14 h) hx hb hr hlocks hU (by rw [c_7]; first | rfl | (show _ = bI _; rw [c_83]; rfl) | (show _ = bI _; rw [c_116]; rfl) | (show _ = bI _; rw [c_129]; rfl) | (show _ = bI _; rw [c_142]; rfl)) dX3_ofHand_125
  have c_7n9 := c_7
  clear c_7
  by_cases c_7 : nI w = nI 10
  · skip
    refine lv_tableIn (tgt := 126) (off := 119) hx hb dX3_ofHand_7 (by rw [c_7]; decide) (by rw [c_7]; decide) (by rw [c_7]; decide) (by decide) ?_
    refine lv_aload_n hx hb dX3_ofHand_126 rfl (lv_at hl 0 rfl) ?_
    refine pi_get hx hb hC hown hP fL_X3_265 5 h (cX_5 hg_1) (v := .int (c.I 13 h)) rfl dX3_ofHand_127 ?_
    exact ro_iret (x := c.I 13 h) hx hb hr hlocks hU (by rw [c_7]; first | rfl | (show _ = bI _; rw [c_83]; rfl) | (show _ = bI _; rw [c_116]; rfl) | (show _ = bI _; rw [c_129]; rfl) | (show _ = bI _; rw [c_142]; rfl)) dX3_ofHand_130
  have c_7n10 := c_7
  clear c_7
  exact (sw_dead 11 (w := w) (by omega) (fun k hk => by match k, hk with | 0, _ => exact c_7n0 | 1, _ => exact c_7n1 | 2, _ => exact c_7n2 | 3, _ => exact c_7n3 | 4, _ => exact c_7n4 | 5, _ => exact c_7n5 | 6, _ => exact c_7n6 | 7, _ => exact c_7n7 | 8, _ => exact c_7n8 | 9, _ => exact c_7n9 | 10, _ => exact c_7n10)).elim
set_option maxHeartbeats 4000000 in
set_option maxRecDepth 100000 in
theorem mX3_ofHand_b1 (l : Launch) (hst : l.stackTraces = false) {E : En} {c : Cy} {ly : Ly} {L : List Nat} {ad : Nat → Nat → Nat} {H : Heap} (hX : PX E c ly L ad H) (v w : Int32) (hv : isInS v (nI 0) (nI (c.R 10 1) - nI 1) = false) : ExI l yX3_ofHand cX3_ofHand 4 .int 7 111 [.ref (ad 0 0), .int v, .int w] E H 1 (fun _ => xIO) 0 := by
  obtain ⟨hP, hly, hLb, wf⟩ := id hX
  refine ex_of (by decide) (Nat.le_of_ble_eq_true rfl) ?_
  intro p e s m below meth co ls hx hb hr hml hown hlocks hout hC hU hl
  have hS : va_S noA s.heap H [] := by rw [hU]; exact va_S.rf
  have hAb : ∀ q, noA q → bA E q := fun _ h => h.elim
  have hl : lv_has ls 4 [(0, .ref (ad 0 0)), (1, .int v), (2, .int w)] := hl
  refine lv_aload_n hx hb dX3_ofHand_0 rfl (lv_at hl 0 rfl) ?_
  refine lv_iload_n hx hb dX3_ofHand_1 rfl (lv_at hl 1 rfl) ?_
  exact ex_VR (As := [.int v]) (h0 := ad 0 0) (rest := []) hx hb hml hown hlocks hout hC hU (mX3_handAt_b l hst hX v (by first | assumption | omega)) kV_X3_92 ⟨Nat.le_of_ble_eq_true rfl, Nat.le_of_ble_eq_true rfl⟩ (fun _ => ⟨by decide, rfl⟩) (hP.recv hC cX_0 rfl) rfl hl (Nat.le_of_ble_eq_true rfl) dX3_ofHand_2 (fun h => absurd h (by decide))
set_option maxHeartbeats 4000000 in
set_option maxRecDepth 100000 in
theorem mX3_ofHand_b2 (l : Launch) (hst : l.stackTraces = false) {E : En} {c : Cy} {ly : Ly} {L : List Nat} {ad : Nat → Nat → Nat} {H : Heap} (hX : PX E c ly L ad H) (h : Nat) (w : Int32) (hh : h < c.R 10 1) (hw : isInS w (nI 0) (nI 10) = false) : ExI l yX3_ofHand cX3_ofHand 4 .int 6 90 [.ref (ad 0 0), .int (nI h), .int w] E H 1 (fun _ => xIA) 0 := by
  obtain ⟨hP, hly, hLb, wf⟩ := id hX
  refine ex_of (by decide) (Nat.le_of_ble_eq_true rfl) ?_
  intro p e s m below meth co ls hx hb hr hml hown hlocks hout hC hU hl
  have hS : va_S noA s.heap H [] := by rw [hU]; exact va_S.rf
  have hAb : ∀ q, noA q → bA E q := fun _ h => h.elim
  have hl : lv_has ls 4 [(0, .ref (ad 0 0)), (1, .int (nI h)), (2, .int w)] := hl
  refine lv_aload_n hx hb dX3_ofHand_0 rfl (lv_at hl 0 rfl) ?_
  refine lv_iload_n hx hb dX3_ofHand_1 rfl (lv_at hl 1 rfl) ?_
  refine ro_VR (As := [.int (nI h)]) (h0 := ad 0 0) (rest := []) (v := some (ad 5 h)) hx hb hml hown hC hS hAb (mX3_handAt_g l hX h (by first | assumption | omega | (simp only [decide_eq_false_iff_not, decide_eq_true_eq] at *; omega))) kV_X3_92 ⟨rfl, rfl⟩ ⟨Nat.le_of_ble_eq_true rfl, Nat.le_of_ble_eq_true rfl⟩ (hP.recv hC cX_0 rfl) rfl hl (Nat.le_of_ble_eq_true rfl) ⟨Nat.zero_le _, Nat.zero_le _⟩ dX3_ofHand_2 ?_
  have hg_1 : h < c.R 11 1 := by have := wf.sw; have := wf.sh'; have := wf.sl; omega
  refine lv_astore_n (lv' := [(3, .ref (ad 5 h)), (0, .ref (ad 0 0)), (1, .int (nI h)), (2, .int w)]) hx hb dX3_ofHand_5 rfl hl (by decide) rfl (fun ls hl => ?_)
  refine lv_iload_n hx hb dX3_ofHand_6 rfl (lv_at hl 3 rfl) ?_
  by_cases c_7 : w = nI 0
  · skip
    exact absurd hw (by rw [c_7]; decide)
  have c_7n0 := c_7
  clear c_7
  by_cases c_7 : w = nI 1
  · skip
    exact absurd hw (by rw [c_7]; decide)
  have c_7n1 := c_7
  clear c_7
  by_cases c_7 : w = nI 2
  · skip
    exact absurd hw (by rw [c_7]; decide)
  have c_7n2 := c_7
  clear c_7
  by_cases c_7 : w = nI 3
  · skip
    exact absurd hw (by rw [c_7]; decide)
  have c_7n3 := c_7
  clear c_7
  by_cases c_7 : w = nI 4
  · skip
    exact absurd hw (by rw [c_7]; decide)
  have c_7n4 := c_7
  clear c_7
  by_cases c_7 : w = nI 5
  · skip
    exact absurd hw (by rw [c_7]; decide)
  have c_7n5 := c_7
  clear c_7
  by_cases c_7 : w = nI 6
  · skip
    exact absurd hw (by rw [c_7]; decide)
  have c_7n6 := c_7
  clear c_7
  by_cases c_7 : w = nI 7
  · skip
    exact absurd hw (by rw [c_7]; decide)
  have c_7n7 := c_7
  clear c_7
  by_cases c_7 : w = nI 8
  · skip
    exact absurd hw (by rw [c_7]; decide)
  have c_7n8 := c_7
  clear c_7
  by_cases c_7 : w = nI 9
  · skip
    exact absurd hw (by rw [c_7]; decide)
  have c_7n9 := c_7
  clear c_7
  by_cases c_7 : w = nI 10
  · skip
    exact absurd hw (by rw [c_7]; decide)
  have c_7n10 := c_7
  clear c_7
  refine lv_tableOut (tgt := 131) hx hb dX3_ofHand_7 (sw_out 11 (fun k hk => by match k, hk with | 0, _ => exact c_7n0 | 1, _ => exact c_7n1 | 2, _ => exact c_7n2 | 3, _ => exact c_7n3 | 4, _ => exact c_7n4 | 5, _ => exact c_7n5 | 6, _ => exact c_7n6 | 7, _ => exact c_7n7 | 8, _ => exact c_7n8 | 9, _ => exact c_7n9 | 10, _ => exact c_7n10)) (by decide) ?_
  exact ex_throwR (j := 13) hx hb hst hC hU hown wCl_X3_36 tx_IA (by decide +kernel) rfl (hl.1.trans hml.symm) (Or.inr ⟨dX3_ofHand_135, dX3_ofHand_138, dX3_ofHand_141⟩) dX3_ofHand_131 dX3_ofHand_134 hout ⟨Nat.le_of_ble_eq_true rfl, Nat.le_of_ble_eq_true rfl⟩ hlocks ⟨by decide, rfl⟩
set_option maxHeartbeats 4000000 in
set_option maxRecDepth 100000 in
theorem mX3_ofLayer_g (l : Launch) {E : En} {c : Cy} {ly : Ly} {L : List Nat} {ad : Nat → Nat → Nat} {H : Heap} (hX : PX E c ly L ad H) (j w : Nat) (hj : j < c.R 10 2) (hw : w ≤ 13) : RoI l yX3_ofLayer cX3_ofLayer 4 .int (rmk 5 0 0 110) [.ref (ad 0 0), .int (nI j), .int (nI w)] E H (olS c j (nI w)) := by
  obtain ⟨hP, hly, hLb, wf⟩ := id hX
  refine ro_of (by decide) (Nat.le_of_ble_eq_true rfl) ?_
  intro p e s m below meth co ls hx hb hr hml hown hlocks hnm hC hU hl
  have hS : va_S noA s.heap H [] := by rw [hU]; exact va_S.rf
  have hAb : ∀ q, noA q → bA E q := fun _ h => h.elim
  have hl : lv_has ls 4 [(0, .ref (ad 0 0)), (1, .int (nI j)), (2, .int (nI w))] := hl
  refine lv_aload_n hx hb dX3_ofLayer_0 rfl (lv_at hl 0 rfl) ?_
  refine lv_iload_n hx hb dX3_ofLayer_1 rfl (lv_at hl 1 rfl) ?_
  refine ro_VR (As := [.int (nI j)]) (h0 := ad 0 0) (rest := []) (v := some (ad 7 j)) hx hb hml hown hC hS hAb (mX3_layerAt_g l hX j (by first | assumption | omega | (simp only [decide_eq_false_iff_not, decide_eq_true_eq] at *; omega))) kV_X3_182 ⟨rfl, rfl⟩ ⟨Nat.le_of_ble_eq_true rfl, Nat.le_of_ble_eq_true rfl⟩ (hP.recv hC cX_0 rfl) rfl hl (Nat.le_of_ble_eq_true rfl) ⟨Nat.zero_le _, Nat.zero_le _⟩ dX3_ofLayer_2 ?_
  have hg_1 : j < c.R 11 2 := by have := wf.sw; have := wf.sh'; have := wf.sl; omega
  refine lv_astore_n (lv' := [(3, .ref (ad 7 j)), (0, .ref (ad 0 0)), (1, .int (nI j)), (2, .int (nI w))]) hx hb dX3_ofLayer_5 rfl hl (by decide) rfl (fun ls hl => ?_)
  refine lv_iload_n hx hb dX3_ofLayer_6 rfl (lv_at hl 3 rfl) ?_
  by_cases c_7 : nI w = nI 0
  · skip
    refine lv_tableIn (tgt := 76) (off := 69) hx hb dX3_ofLayer_7 (by rw [c_7]; decide) (by rw [c_7]; decide) (by rw [c_7]; decide) (by decide) ?_
    refine lv_aload_n hx hb dX3_ofLayer_76 rfl (lv_at hl 0 rfl) ?_
    refine pi_get hx hb hC hown hP fL_X3_172 7 j (cX_7 hg_1) (v := .ref (ad 5 (c.R 5 j))) rfl dX3_ofLayer_77 ?_
    have g_2 := wf.lh hg_1
    refine pi_get hx hb hC hown hP fL_X3_270 5 (c.R 5 j) (cX_5 g_2) (v := .int (nI (c.R 5 j))) rfl dX3_ofLayer_80 ?_
    have g_3 := wf.nh
    exact ro_iret (x := nI (c.R 5 j)) hx hb hr hlocks hU (by rw [c_7]; first | rfl | (show _ = bI _; rw [c_83]; rfl) | (show _ = bI _; rw [c_116]; rfl) | (show _ = bI _; rw [c_129]; rfl) | (show _ = bI _; rw [c_142]; rfl)) dX3_ofLayer_83
  have c_7n0 := c_7
  clear c_7
  by_cases c_7 : nI w = nI 1
  · skip
    refine lv_tableIn (tgt := 84) (off := 77) hx hb dX3_ofLayer_7 (by rw [c_7]; decide) (by rw [c_7]; decide) (by rw [c_7]; decide) (by decide) ?_
    refine lv_aload_n hx hb dX3_ofLayer_84 rfl (lv_at hl 0 rfl) ?_
    refine pi_get hx hb hC hown hP fL_X3_195 7 j (cX_7 hg_1) (v := .ref (ad 3 (c.R 6 j))) rfl dX3_ofLayer_85 ?_
    have g_4 := wf.lw hg_1
    refine pi_get hx hb hC hown hP fL_X3_271 3 (c.R 6 j) (cX_3 g_4) (v := .int (nI (c.R 6 j))) rfl dX3_ofLayer_88 ?_
    have g_5 := wf.nw
    exact ro_iret (x := nI (c.R 6 j)) hx hb hr hlocks hU (by rw [c_7]; first | rfl | (show _ = bI _; rw [c_83]; rfl) | (show _ = bI _; rw [c_116]; rfl) | (show _ = bI _; rw [c_129]; rfl) | (show _ = bI _; rw [c_142]; rfl)) dX3_ofLayer_91
  have c_7n1 := c_7
  clear c_7
  by_cases c_7 : nI w = nI 2
  · skip
    refine lv_tableIn (tgt := 92) (off := 85) hx hb dX3_ofLayer_7 (by rw [c_7]; decide) (by rw [c_7]; decide) (by rw [c_7]; decide) (by decide) ?_
    refine lv_aload_n hx hb dX3_ofLayer_92 rfl (lv_at hl 0 rfl) ?_
    refine pi_get hx hb hC hown hP fL_X3_272 7 j (cX_7 hg_1) (v := .int (nI (c.R 7 j))) rfl dX3_ofLayer_93 ?_
    have g_6 := wf.lf hg_1
    exact ro_iret (x := nI (c.R 7 j)) hx hb hr hlocks hU (by rw [c_7]; first | rfl | (show _ = bI _; rw [c_83]; rfl) | (show _ = bI _; rw [c_116]; rfl) | (show _ = bI _; rw [c_129]; rfl) | (show _ = bI _; rw [c_142]; rfl)) dX3_ofLayer_96
  have c_7n2 := c_7
  clear c_7
  by_cases c_7 : nI w = nI 3
  · skip
    refine lv_tableIn (tgt := 97) (off := 90) hx hb dX3_ofLayer_7 (by rw [c_7]; decide) (by rw [c_7]; decide) (by rw [c_7]; decide) (by decide) ?_
    refine lv_aload_n hx hb dX3_ofLayer_97 rfl (lv_at hl 0 rfl) ?_
    refine pi_get hx hb hC hown hP fL_X3_275 7 j (cX_7 hg_1) (v := .int (nI (c.R 8 j))) rfl dX3_ofLayer_98 ?_
    have g_7 := wf.lf hg_1
    exact ro_iret (x := nI (c.R 8 j)) hx hb hr hlocks hU (by rw [c_7]; first | rfl | (show _ = bI _; rw [c_83]; rfl) | (show _ = bI _; rw [c_116]; rfl) | (show _ = bI _; rw [c_129]; rfl) | (show _ = bI _; rw [c_142]; rfl)) dX3_ofLayer_101
  have c_7n3 := c_7
  clear c_7
  by_cases c_7 : nI w = nI 4
  · skip
    refine lv_tableIn (tgt := 102) (off := 95) hx hb dX3_ofLayer_7 (by rw [c_7]; decide) (by rw [c_7]; decide) (by rw [c_7]; decide) (by decide) ?_
    refine lv_aload_n hx hb dX3_ofLayer_102 rfl (lv_at hl 0 rfl) ?_
    refine pi_get hx hb hC hown hP fL_X3_278 7 j (cX_7 hg_1) (v := .int (nI (c.R 9 j))) rfl dX3_ofLayer_103 ?_
    have g_8 := wf.lk hg_1
    exact ro_iret (x := nI (c.R 9 j)) hx hb hr hlocks hU (by rw [c_7]; first | rfl | (show _ = bI _; rw [c_83]; rfl) | (show _ = bI _; rw [c_116]; rfl) | (show _ = bI _; rw [c_129]; rfl) | (show _ = bI _; rw [c_142]; rfl)) dX3_ofLayer_106
  have c_7n4 := c_7
  clear c_7
  by_cases c_7 : nI w = nI 5
  · skip
    refine lv_tableIn (tgt := 107) (off := 100) hx hb dX3_ofLayer_7 (by rw [c_7]; decide) (by rw [c_7]; decide) (by rw [c_7]; decide) (by decide) ?_
    refine lv_aload_n hx hb dX3_ofLayer_107 rfl (lv_at hl 0 rfl) ?_
    refine pi_get hx hb hC hown hP fL_X3_123 7 j (cX_7 hg_1) (v := .int (c.I 16 j)) rfl dX3_ofLayer_108 ?_
    exact ro_iret (x := c.I 16 j) hx hb hr hlocks hU (by rw [c_7]; first | rfl | (show _ = bI _; rw [c_83]; rfl) | (show _ = bI _; rw [c_116]; rfl) | (show _ = bI _; rw [c_129]; rfl) | (show _ = bI _; rw [c_142]; rfl)) dX3_ofLayer_111
  have c_7n5 := c_7
  clear c_7
  by_cases c_7 : nI w = nI 6
  · skip
    refine lv_tableIn (tgt := 112) (off := 105) hx hb dX3_ofLayer_7 (by rw [c_7]; decide) (by rw [c_7]; decide) (by rw [c_7]; decide) (by decide) ?_
    refine lv_aload_n hx hb dX3_ofLayer_112 rfl (lv_at hl 0 rfl) ?_
    refine pi_get hx hb hC hown hP fL_X3_130 7 j (cX_7 hg_1) (v := .int (bI (c.B 1 j))) rfl dX3_ofLayer_113 ?_
    refine lv_bif_eq (tgt := 123) hx hb dX3_ofLayer_116 (by decide) (fun c_116 => ?_) (fun c_116 => ?_)
    · skip
      refine lv_iconstN hx hb 0 dX3_ofLayer_123 (by decide) ?_
      exact ro_iret (x := nI 0) hx hb hr hlocks hU (by rw [c_7]; first | rfl | (show _ = bI _; rw [c_83]; rfl) | (show _ = bI _; rw [c_116]; rfl) | (show _ = bI _; rw [c_129]; rfl) | (show _ = bI _; rw [c_142]; rfl)) dX3_ofLayer_124
    · skip
      refine lv_iconstN hx hb 1 dX3_ofLayer_119 (by decide) ?_
      refine lv_goto (tgt := 124) hx hb dX3_ofLayer_120 (by decide) ?_
      exact ro_iret (x := nI 1) hx hb hr hlocks hU (by rw [c_7]; first | rfl | (show _ = bI _; rw [c_83]; rfl) | (show _ = bI _; rw [c_116]; rfl) | (show _ = bI _; rw [c_129]; rfl) | (show _ = bI _; rw [c_142]; rfl)) dX3_ofLayer_124
  have c_7n6 := c_7
  clear c_7
  by_cases c_7 : nI w = nI 7
  · skip
    refine lv_tableIn (tgt := 125) (off := 118) hx hb dX3_ofLayer_7 (by rw [c_7]; decide) (by rw [c_7]; decide) (by rw [c_7]; decide) (by decide) ?_
    refine lv_aload_n hx hb dX3_ofLayer_125 rfl (lv_at hl 0 rfl) ?_
    refine pi_get hx hb hC hown hP fL_X3_202 7 j (cX_7 hg_1) (v := .int (bI (c.B 2 j))) rfl dX3_ofLayer_126 ?_
    refine lv_bif_eq (tgt := 136) hx hb dX3_ofLayer_129 (by decide) (fun c_129 => ?_) (fun c_129 => ?_)
    · skip
      refine lv_iconstN hx hb 0 dX3_ofLayer_136 (by decide) ?_
      exact ro_iret (x := nI 0) hx hb hr hlocks hU (by rw [c_7]; first | rfl | (show _ = bI _; rw [c_83]; rfl) | (show _ = bI _; rw [c_116]; rfl) | (show _ = bI _; rw [c_129]; rfl) | (show _ = bI _; rw [c_142]; rfl)) dX3_ofLayer_137
    · skip
      refine lv_iconstN hx hb 1 dX3_ofLayer_132 (by decide) ?_
      refine lv_goto (tgt := 137) hx hb dX3_ofLayer_133 (by decide) ?_
      exact ro_iret (x := nI 1) hx hb hr hlocks hU (by rw [c_7]; first | rfl | (show _ = bI _; rw [c_83]; rfl) | (show _ = bI _; rw [c_116]; rfl) | (show _ = bI _; rw [c_129]; rfl) | (show _ = bI _; rw [c_142]; rfl)) dX3_ofLayer_137
  have c_7n7 := c_7
  clear c_7
  by_cases c_7 : nI w = nI 8
  · skip
    refine lv_tableIn (tgt := 138) (off := 131) hx hb dX3_ofLayer_7 (by rw [c_7]; decide) (by rw [c_7]; decide) (by rw [c_7]; decide) (by decide) ?_
    refine lv_aload_n hx hb dX3_ofLayer_138 rfl (lv_at hl 0 rfl) ?_
    refine pi_get hx hb hC hown hP fL_X3_205 7 j (cX_7 hg_1) (v := .int (bI (c.B 3 j))) rfl dX3_ofLayer_139 ?_
    refine lv_bif_eq (tgt := 149) hx hb dX3_ofLayer_142 (by decide) (fun c_142 => ?_) (fun c_142 => ?_)
    · skip
      refine lv_iconstN hx hb 0 dX3_ofLayer_149 (by decide) ?_
      exact ro_iret (x := nI 0) hx hb hr hlocks hU (by rw [c_7]; first | rfl | (show _ = bI _; rw [c_83]; rfl) | (show _ = bI _; rw [c_116]; rfl) | (show _ = bI _; rw [c_129]; rfl) | (show _ = bI _; rw [c_142]; rfl)) dX3_ofLayer_150
    · skip
      refine lv_iconstN hx hb 1 dX3_ofLayer_145 (by decide) ?_
      refine lv_goto (tgt := 150) hx hb dX3_ofLayer_146 (by decide) ?_
      exact ro_iret (x := nI 1) hx hb hr hlocks hU (by rw [c_7]; first | rfl | (show _ = bI _; rw [c_83]; rfl) | (show _ = bI _; rw [c_116]; rfl) | (show _ = bI _; rw [c_129]; rfl) | (show _ = bI _; rw [c_142]; rfl)) dX3_ofLayer_150
  have c_7n8 := c_7
  clear c_7
  by_cases c_7 : nI w = nI 9
  · skip
    refine lv_tableIn (tgt := 151) (off := 144) hx hb dX3_ofLayer_7 (by rw [c_7]; decide) (by rw [c_7]; decide) (by rw [c_7]; decide) (by decide) ?_
    refine lv_aload_n hx hb dX3_ofLayer_151 rfl (lv_at hl 0 rfl) ?_
    refine ro_V (As := []) (h0 := ad 7 j) (rest := []) (v := nI (seenS c j)) hx hb hml hown hC hS hAb (mX1_cellsSeen l hX j hg_1) kV_X3_281 ⟨rfl, rfl⟩ ⟨Nat.le_of_ble_eq_true rfl, Nat.le_of_ble_eq_true rfl⟩ (hP.recv hC (cX_7 hg_1) rfl) rfl hl (Nat.le_of_ble_eq_true rfl) ⟨Nat.zero_le _, Nat.zero_le _⟩ dX3_ofLayer_152 ?_
    have g_9 := seen_le wf (j := j) hg_1
    exact ro_iret (x := nI (seenS c j)) hx hb hr hlocks hU (by rw [c_7]; first | rfl | (show _ = bI _; rw [c_83]; rfl) | (show _ = bI _; rw [c_116]; rfl) | (show _ = bI _; rw [c_129]; rfl) | (show _ = bI _; rw [c_142]; rfl)) dX3_ofLayer_155
  have c_7n9 := c_7
  clear c_7
  by_cases c_7 : nI w = nI 10
  · skip
    refine lv_tableIn (tgt := 156) (off := 149) hx hb dX3_ofLayer_7 (by rw [c_7]; decide) (by rw [c_7]; decide) (by rw [c_7]; decide) (by decide) ?_
    refine lv_aload_n hx hb dX3_ofLayer_156 rfl (lv_at hl 0 rfl) ?_
    refine ro_V (As := []) (h0 := ad 7 j) (rest := []) (v := slS c j) hx hb hml hown hC hS hAb (mX1_slantShown l hX j hg_1) kV_X3_284 ⟨rfl, rfl⟩ ⟨Nat.le_of_ble_eq_true rfl, Nat.le_of_ble_eq_true rfl⟩ (hP.recv hC (cX_7 hg_1) rfl) rfl hl (Nat.le_of_ble_eq_true rfl) ⟨Nat.zero_le _, Nat.zero_le _⟩ dX3_ofLayer_157 ?_
    exact ro_iret (x := slS c j) hx hb hr hlocks hU (by rw [c_7]; first | rfl | (show _ = bI _; rw [c_83]; rfl) | (show _ = bI _; rw [c_116]; rfl) | (show _ = bI _; rw [c_129]; rfl) | (show _ = bI _; rw [c_142]; rfl)) dX3_ofLayer_160
  have c_7n10 := c_7
  clear c_7
  by_cases c_7 : nI w = nI 11
  · skip
    refine lv_tableIn (tgt := 161) (off := 154) hx hb dX3_ofLayer_7 (by rw [c_7]; decide) (by rw [c_7]; decide) (by rw [c_7]; decide) (by decide) ?_
    refine lv_aload_n hx hb dX3_ofLayer_161 rfl (lv_at hl 0 rfl) ?_
    refine ro_V (As := []) (h0 := ad 7 j) (rest := []) (v := rdS c j) hx hb hml hown hC hS hAb (mX1_roundShown l hX j hg_1) kV_X3_287 ⟨rfl, rfl⟩ ⟨Nat.le_of_ble_eq_true rfl, Nat.le_of_ble_eq_true rfl⟩ (hP.recv hC (cX_7 hg_1) rfl) rfl hl (Nat.le_of_ble_eq_true rfl) ⟨Nat.zero_le _, Nat.zero_le _⟩ dX3_ofLayer_162 ?_
    exact ro_iret (x := rdS c j) hx hb hr hlocks hU (by rw [c_7]; first | rfl | (show _ = bI _; rw [c_83]; rfl) | (show _ = bI _; rw [c_116]; rfl) | (show _ = bI _; rw [c_129]; rfl) | (show _ = bI _; rw [c_142]; rfl)) dX3_ofLayer_165
  have c_7n11 := c_7
  clear c_7
  by_cases c_7 : nI w = nI 12
  · skip
    refine lv_tableIn (tgt := 166) (off := 159) hx hb dX3_ofLayer_7 (by rw [c_7]; decide) (by rw [c_7]; decide) (by rw [c_7]; decide) (by decide) ?_
    refine lv_aload_n hx hb dX3_ofLayer_166 rfl (lv_at hl 1 rfl) ?_
    refine lv_aload_n hx hb dX3_ofLayer_167 rfl (lv_at hl 0 rfl) ?_
    refine ro_V (As := [.ref (ad 7 j)]) (h0 := ad 0 0) (rest := []) (v := prS c j) hx hb hml hown hC hS hAb (mX3_priceOf l hX j hg_1) kV_X3_191 ⟨rfl, rfl⟩ ⟨Nat.le_of_ble_eq_true rfl, Nat.le_of_ble_eq_true rfl⟩ (hP.recv hC cX_0 rfl) rfl hl (Nat.le_of_ble_eq_true rfl) ⟨Nat.zero_le _, Nat.zero_le _⟩ dX3_ofLayer_168 ?_
    exact ro_iret (x := prS c j) hx hb hr hlocks hU (by rw [c_7]; first | rfl | (show _ = bI _; rw [c_83]; rfl) | (show _ = bI _; rw [c_116]; rfl) | (show _ = bI _; rw [c_129]; rfl) | (show _ = bI _; rw [c_142]; rfl)) dX3_ofLayer_171
  have c_7n12 := c_7
  clear c_7
  by_cases c_7 : nI w = nI 13
  · skip
    refine lv_tableIn (tgt := 172) (off := 165) hx hb dX3_ofLayer_7 (by rw [c_7]; decide) (by rw [c_7]; decide) (by rw [c_7]; decide) (by decide) ?_
    refine lv_aload_n hx hb dX3_ofLayer_172 rfl (lv_at hl 1 rfl) ?_
    refine lv_aload_n hx hb dX3_ofLayer_173 rfl (lv_at hl 0 rfl) ?_
    refine ro_V (As := [.ref (ad 7 j)]) (h0 := ad 0 0) (rest := []) (v := suS c j) hx hb hml hown hC hS hAb (mX3_suspectOf l hX j hg_1) kV_X3_290 ⟨rfl, rfl⟩ ⟨Nat.le_of_ble_eq_true rfl, Nat.le_of_ble_eq_true rfl⟩ (hP.recv hC cX_0 rfl) rfl hl (Nat.le_of_ble_eq_true rfl) ⟨Nat.zero_le _, Nat.zero_le _⟩ dX3_ofLayer_174 ?_
    exact ro_iret (x := suS c j) hx hb hr hlocks hU (by rw [c_7]; first | rfl | (show _ = bI _; rw [c_83]; rfl) | (show _ = bI _; rw [c_116]; rfl) | (show _ = bI _; rw [c_129]; rfl) | (show _ = bI _; rw [c_142]; rfl)) dX3_ofLayer_177
  have c_7n13 := c_7
  clear c_7
  exact (sw_dead 14 (w := w) (by omega) (fun k hk => by match k, hk with | 0, _ => exact c_7n0 | 1, _ => exact c_7n1 | 2, _ => exact c_7n2 | 3, _ => exact c_7n3 | 4, _ => exact c_7n4 | 5, _ => exact c_7n5 | 6, _ => exact c_7n6 | 7, _ => exact c_7n7 | 8, _ => exact c_7n8 | 9, _ => exact c_7n9 | 10, _ => exact c_7n10 | 11, _ => exact c_7n11 | 12, _ => exact c_7n12 | 13, _ => exact c_7n13)).elim
set_option maxHeartbeats 4000000 in
set_option maxRecDepth 100000 in
theorem mX3_ofLayer_b1 (l : Launch) (hst : l.stackTraces = false) {E : En} {c : Cy} {ly : Ly} {L : List Nat} {ad : Nat → Nat → Nat} {H : Heap} (hX : PX E c ly L ad H) (v w : Int32) (hv : isInS v (nI 0) (nI (c.R 10 2) - nI 1) = false) : ExI l yX3_ofLayer cX3_ofLayer 4 .int 7 111 [.ref (ad 0 0), .int v, .int w] E H 1 (fun _ => xIO) 0 := by
  obtain ⟨hP, hly, hLb, wf⟩ := id hX
  refine ex_of (by decide) (Nat.le_of_ble_eq_true rfl) ?_
  intro p e s m below meth co ls hx hb hr hml hown hlocks hout hC hU hl
  have hS : va_S noA s.heap H [] := by rw [hU]; exact va_S.rf
  have hAb : ∀ q, noA q → bA E q := fun _ h => h.elim
  have hl : lv_has ls 4 [(0, .ref (ad 0 0)), (1, .int v), (2, .int w)] := hl
  refine lv_aload_n hx hb dX3_ofLayer_0 rfl (lv_at hl 0 rfl) ?_
  refine lv_iload_n hx hb dX3_ofLayer_1 rfl (lv_at hl 1 rfl) ?_
  exact ex_VR (As := [.int v]) (h0 := ad 0 0) (rest := []) hx hb hml hown hlocks hout hC hU (mX3_layerAt_b l hst hX v (by first | assumption | omega)) kV_X3_182 ⟨Nat.le_of_ble_eq_true rfl, Nat.le_of_ble_eq_true rfl⟩ (fun _ => ⟨by decide, rfl⟩) (hP.recv hC cX_0 rfl) rfl hl (Nat.le_of_ble_eq_true rfl) dX3_ofLayer_2 (fun h => absurd h (by decide))
set_option maxHeartbeats 4000000 in
set_option maxRecDepth 100000 in
theorem mX3_ofLayer_b2 (l : Launch) (hst : l.stackTraces = false) {E : En} {c : Cy} {ly : Ly} {L : List Nat} {ad : Nat → Nat → Nat} {H : Heap} (hX : PX E c ly L ad H) (j : Nat) (w : Int32) (hj : j < c.R 10 2) (hw : isInS w (nI 0) (nI 13) = false) : ExI l yX3_ofLayer cX3_ofLayer 4 .int 6 90 [.ref (ad 0 0), .int (nI j), .int w] E H 1 (fun _ => xIA) 0 := by
  obtain ⟨hP, hly, hLb, wf⟩ := id hX
  refine ex_of (by decide) (Nat.le_of_ble_eq_true rfl) ?_
  intro p e s m below meth co ls hx hb hr hml hown hlocks hout hC hU hl
  have hS : va_S noA s.heap H [] := by rw [hU]; exact va_S.rf
  have hAb : ∀ q, noA q → bA E q := fun _ h => h.elim
  have hl : lv_has ls 4 [(0, .ref (ad 0 0)), (1, .int (nI j)), (2, .int w)] := hl
  refine lv_aload_n hx hb dX3_ofLayer_0 rfl (lv_at hl 0 rfl) ?_
  refine lv_iload_n hx hb dX3_ofLayer_1 rfl (lv_at hl 1 rfl) ?_
  refine ro_VR (As := [.int (nI j)]) (h0 := ad 0 0) (rest := []) (v := some (ad 7 j)) hx hb hml hown hC hS hAb (mX3_layerAt_g l hX j (by first | assumption | omega | (simp only [decide_eq_false_iff_not, decide_eq_true_eq] at *; omega))) kV_X3_182 ⟨rfl, rfl⟩ ⟨Nat.le_of_ble_eq_true rfl, Nat.le_of_ble_eq_true rfl⟩ (hP.recv hC cX_0 rfl) rfl hl (Nat.le_of_ble_eq_true rfl) ⟨Nat.zero_le _, Nat.zero_le _⟩ dX3_ofLayer_2 ?_
  have hg_1 : j < c.R 11 2 := by have := wf.sw; have := wf.sh'; have := wf.sl; omega
  refine lv_astore_n (lv' := [(3, .ref (ad 7 j)), (0, .ref (ad 0 0)), (1, .int (nI j)), (2, .int w)]) hx hb dX3_ofLayer_5 rfl hl (by decide) rfl (fun ls hl => ?_)
  refine lv_iload_n hx hb dX3_ofLayer_6 rfl (lv_at hl 3 rfl) ?_
  by_cases c_7 : w = nI 0
  · skip
    exact absurd hw (by rw [c_7]; decide)
  have c_7n0 := c_7
  clear c_7
  by_cases c_7 : w = nI 1
  · skip
    exact absurd hw (by rw [c_7]; decide)
  have c_7n1 := c_7
  clear c_7
  by_cases c_7 : w = nI 2
  · skip
    exact absurd hw (by rw [c_7]; decide)
  have c_7n2 := c_7
  clear c_7
  by_cases c_7 : w = nI 3
  · skip
    exact absurd hw (by rw [c_7]; decide)
  have c_7n3 := c_7
  clear c_7
  by_cases c_7 : w = nI 4
  · skip
    exact absurd hw (by rw [c_7]; decide)
  have c_7n4 := c_7
  clear c_7
  by_cases c_7 : w = nI 5
  · skip
    exact absurd hw (by rw [c_7]; decide)
  have c_7n5 := c_7
  clear c_7
  by_cases c_7 : w = nI 6
  · skip
    exact absurd hw (by rw [c_7]; decide)
  have c_7n6 := c_7
  clear c_7
  by_cases c_7 : w = nI 7
  · skip
    exact absurd hw (by rw [c_7]; decide)
  have c_7n7 := c_7
  clear c_7
  by_cases c_7 : w = nI 8
  · skip
    exact absurd hw (by rw [c_7]; decide)
  have c_7n8 := c_7
  clear c_7
  by_cases c_7 : w = nI 9
  · skip
    exact absurd hw (by rw [c_7]; decide)
  have c_7n9 := c_7
  clear c_7
  by_cases c_7 : w = nI 10
  · skip
    exact absurd hw (by rw [c_7]; decide)
  have c_7n10 := c_7
  clear c_7
  by_cases c_7 : w = nI 11
  · skip
    exact absurd hw (by rw [c_7]; decide)
  have c_7n11 := c_7
  clear c_7
  by_cases c_7 : w = nI 12
  · skip
    exact absurd hw (by rw [c_7]; decide)
  have c_7n12 := c_7
  clear c_7
  by_cases c_7 : w = nI 13
  · skip
    exact absurd hw (by rw [c_7]; decide)
  have c_7n13 := c_7
  clear c_7
  refine lv_tableOut (tgt := 178) hx hb dX3_ofLayer_7 (sw_out 14 (fun k hk => by match k, hk with | 0, _ => exact c_7n0 | 1, _ => exact c_7n1 | 2, _ => exact c_7n2 | 3, _ => exact c_7n3 | 4, _ => exact c_7n4 | 5, _ => exact c_7n5 | 6, _ => exact c_7n6 | 7, _ => exact c_7n7 | 8, _ => exact c_7n8 | 9, _ => exact c_7n9 | 10, _ => exact c_7n10 | 11, _ => exact c_7n11 | 12, _ => exact c_7n12 | 13, _ => exact c_7n13)) (by decide) ?_
  exact ex_throwR (j := 14) hx hb hst hC hU hown wCl_X3_36 tx_IA (by decide +kernel) rfl (hl.1.trans hml.symm) (Or.inr ⟨dX3_ofLayer_182, dX3_ofLayer_185, dX3_ofLayer_188⟩) dX3_ofLayer_178 dX3_ofLayer_181 hout ⟨Nat.le_of_ble_eq_true rfl, Nat.le_of_ble_eq_true rfl⟩ hlocks ⟨by decide, rfl⟩
set_option maxHeartbeats 4000000 in
set_option maxRecDepth 100000 in
theorem mX3_many_g (l : Launch) {E : En} {c : Cy} {ly : Ly} {L : List Nat} {ad : Nat → Nat → Nat} {H : Heap} (hX : PX E c ly L ad H) (w : Nat) (hw : w ≤ 11) : RoI l yX3_many cX3_many 2 .int (rmk 5 0 0 114) [.ref (ad 0 0), .int (nI w)] E H (maS c (nI w)) := by
  obtain ⟨hP, hly, hLb, wf⟩ := id hX
  refine ro_of (by decide) (Nat.le_of_ble_eq_true rfl) ?_
  intro p e s m below meth co ls hx hb hr hml hown hlocks hnm hC hU hl
  have hS : va_S noA s.heap H [] := by rw [hU]; exact va_S.rf
  have hAb : ∀ q, noA q → bA E q := fun _ h => h.elim
  have hl : lv_has ls 2 [(0, .ref (ad 0 0)), (1, .int (nI w))] := hl
  refine lv_iload_n hx hb dX3_many_0 rfl (lv_at hl 1 rfl) ?_
  by_cases c_1 : nI w = nI 0
  · skip
    refine lv_tableIn (tgt := 64) (off := 63) hx hb dX3_many_1 (by rw [c_1]; decide) (by rw [c_1]; decide) (by rw [c_1]; decide) (by decide) ?_
    refine lv_aload_n hx hb dX3_many_64 rfl (lv_at hl 0 rfl) ?_
    refine pi_get hx hb hC hown hP fL_X3_22 0 0 cX_0 (v := .int (nI (c.R 0 0))) rfl dX3_many_65 ?_
    have g_1 := wf.nt
    exact ro_iret (x := nI (c.R 0 0)) hx hb hr hlocks hU (by rw [c_1]; rfl) dX3_many_68
  have c_1n0 := c_1
  clear c_1
  by_cases c_1 : nI w = nI 1
  · skip
    refine lv_tableIn (tgt := 69) (off := 68) hx hb dX3_many_1 (by rw [c_1]; decide) (by rw [c_1]; decide) (by rw [c_1]; decide) (by decide) ?_
    refine lv_aload_n hx hb dX3_many_69 rfl (lv_at hl 0 rfl) ?_
    refine pi_get hx hb hC hown hP fL_X3_10 0 0 cX_0 (v := .ref (ad 1 0)) rfl dX3_many_70 ?_
    refine ro_V (As := []) (h0 := ad 1 0) (rest := []) (v := nI (c.R 10 0)) hx hb hml hown hC hS hAb (mJ_size l hP 0 (cX_1 (by decide))) kV_X3_43 ⟨rfl, rfl⟩ ⟨Nat.le_of_ble_eq_true rfl, Nat.le_of_ble_eq_true rfl⟩ (hP.recv hC (cX_1 (i := 0) (by decide)) rfl) rfl hl (Nat.le_of_ble_eq_true rfl) ⟨Nat.zero_le _, Nat.zero_le _⟩ dX3_many_73 ?_
    have g_2 := wf.sw
    have g_3 := wf.nw
    exact ro_iret (x := nI (c.R 10 0)) hx hb hr hlocks hU (by rw [c_1]; rfl) dX3_many_76
  have c_1n1 := c_1
  clear c_1
  by_cases c_1 : nI w = nI 2
  · skip
    refine lv_tableIn (tgt := 77) (off := 76) hx hb dX3_many_1 (by rw [c_1]; decide) (by rw [c_1]; decide) (by rw [c_1]; decide) (by decide) ?_
    refine lv_aload_n hx hb dX3_many_77 rfl (lv_at hl 0 rfl) ?_
    refine pi_get hx hb hC hown hP fL_X3_16 0 0 cX_0 (v := .ref (ad 1 1)) rfl dX3_many_78 ?_
    refine ro_V (As := []) (h0 := ad 1 1) (rest := []) (v := nI (c.R 10 1)) hx hb hml hown hC hS hAb (mJ_size l hP 1 (cX_1 (by decide))) kV_X3_43 ⟨rfl, rfl⟩ ⟨Nat.le_of_ble_eq_true rfl, Nat.le_of_ble_eq_true rfl⟩ (hP.recv hC (cX_1 (i := 1) (by decide)) rfl) rfl hl (Nat.le_of_ble_eq_true rfl) ⟨Nat.zero_le _, Nat.zero_le _⟩ dX3_many_81 ?_
    have g_4 := wf.sh'
    have g_5 := wf.nh
    exact ro_iret (x := nI (c.R 10 1)) hx hb hr hlocks hU (by rw [c_1]; rfl) dX3_many_84
  have c_1n2 := c_1
  clear c_1
  by_cases c_1 : nI w = nI 3
  · skip
    refine lv_tableIn (tgt := 85) (off := 84) hx hb dX3_many_1 (by rw [c_1]; decide) (by rw [c_1]; decide) (by rw [c_1]; decide) (by decide) ?_
    refine lv_aload_n hx hb dX3_many_85 rfl (lv_at hl 0 rfl) ?_
    refine pi_get hx hb hC hown hP fL_X3_19 0 0 cX_0 (v := .ref (ad 1 2)) rfl dX3_many_86 ?_
    refine ro_V (As := []) (h0 := ad 1 2) (rest := []) (v := nI (c.R 10 2)) hx hb hml hown hC hS hAb (mJ_size l hP 2 (cX_1 (by decide))) kV_X3_43 ⟨rfl, rfl⟩ ⟨Nat.le_of_ble_eq_true rfl, Nat.le_of_ble_eq_true rfl⟩ (hP.recv hC (cX_1 (i := 2) (by decide)) rfl) rfl hl (Nat.le_of_ble_eq_true rfl) ⟨Nat.zero_le _, Nat.zero_le _⟩ dX3_many_89 ?_
    have g_6 := wf.sl
    have g_7 := wf.nl
    exact ro_iret (x := nI (c.R 10 2)) hx hb hr hlocks hU (by rw [c_1]; rfl) dX3_many_92
  have c_1n3 := c_1
  clear c_1
  by_cases c_1 : nI w = nI 4
  · skip
    refine lv_tableIn (tgt := 93) (off := 92) hx hb dX3_many_1 (by rw [c_1]; decide) (by rw [c_1]; decide) (by rw [c_1]; decide) (by decide) ?_
    refine lv_aload_n hx hb dX3_many_93 rfl (lv_at hl 0 rfl) ?_
    refine ro_V (As := []) (h0 := ad 0 0) (rest := []) (v := nI (cntN (lseB c) (c.R 10 2))) hx hb hml hown hC hS hAb (mX3_layersSeen l hX  ) kV_X3_304 ⟨rfl, rfl⟩ ⟨Nat.le_of_ble_eq_true rfl, Nat.le_of_ble_eq_true rfl⟩ (hP.recv hC cX_0 rfl) rfl hl (Nat.le_of_ble_eq_true rfl) ⟨Nat.zero_le _, Nat.zero_le _⟩ dX3_many_94 ?_
    exact ro_iret (x := nI (cntN (lseB c) (c.R 10 2))) hx hb hr hlocks hU (by rw [c_1]; rfl) dX3_many_97
  have c_1n4 := c_1
  clear c_1
  by_cases c_1 : nI w = nI 5
  · skip
    refine lv_tableIn (tgt := 98) (off := 97) hx hb dX3_many_1 (by rw [c_1]; decide) (by rw [c_1]; decide) (by rw [c_1]; decide) (by decide) ?_
    refine lv_aload_n hx hb dX3_many_98 rfl (lv_at hl 0 rfl) ?_
    refine pi_get hx hb hC hown hP fL_X3_26 0 0 cX_0 (v := .int (c.I 0 0)) rfl dX3_many_99 ?_
    exact ro_iret (x := c.I 0 0) hx hb hr hlocks hU (by rw [c_1]; rfl) dX3_many_102
  have c_1n5 := c_1
  clear c_1
  by_cases c_1 : nI w = nI 6
  · skip
    refine lv_tableIn (tgt := 103) (off := 102) hx hb dX3_many_1 (by rw [c_1]; decide) (by rw [c_1]; decide) (by rw [c_1]; decide) (by decide) ?_
    refine lv_aload_n hx hb dX3_many_103 rfl (lv_at hl 0 rfl) ?_
    refine ro_V (As := []) (h0 := ad 0 0) (rest := []) (v := smI (fun k => smI (c.Wr k) 8) (c.R 10 1)) hx hb hml hown hC hS hAb (mX3_allWrongs l hX  ) kV_X3_307 ⟨rfl, rfl⟩ ⟨Nat.le_of_ble_eq_true rfl, Nat.le_of_ble_eq_true rfl⟩ (hP.recv hC cX_0 rfl) rfl hl (Nat.le_of_ble_eq_true rfl) ⟨Nat.zero_le _, Nat.zero_le _⟩ dX3_many_104 ?_
    exact ro_iret (x := smI (fun k => smI (c.Wr k) 8) (c.R 10 1)) hx hb hr hlocks hU (by rw [c_1]; rfl) dX3_many_107
  have c_1n6 := c_1
  clear c_1
  by_cases c_1 : nI w = nI 7
  · skip
    refine lv_tableIn (tgt := 108) (off := 107) hx hb dX3_many_1 (by rw [c_1]; decide) (by rw [c_1]; decide) (by rw [c_1]; decide) (by decide) ?_
    refine lv_aload_n hx hb dX3_many_108 rfl (lv_at hl 0 rfl) ?_
    refine ro_V (As := []) (h0 := ad 0 0) (rest := []) (v := nI (cntN (c.B 0) (c.R 10 1))) hx hb hml hown hC hS hAb (mX3_knownHands l hX  ) kV_X3_310 ⟨rfl, rfl⟩ ⟨Nat.le_of_ble_eq_true rfl, Nat.le_of_ble_eq_true rfl⟩ (hP.recv hC cX_0 rfl) rfl hl (Nat.le_of_ble_eq_true rfl) ⟨Nat.zero_le _, Nat.zero_le _⟩ dX3_many_109 ?_
    exact ro_iret (x := nI (cntN (c.B 0) (c.R 10 1))) hx hb hr hlocks hU (by rw [c_1]; rfl) dX3_many_112
  have c_1n7 := c_1
  clear c_1
  by_cases c_1 : nI w = nI 8
  · skip
    refine lv_tableIn (tgt := 113) (off := 112) hx hb dX3_many_1 (by rw [c_1]; decide) (by rw [c_1]; decide) (by rw [c_1]; decide) (by decide) ?_
    refine lv_aload_n hx hb dX3_many_113 rfl (lv_at hl 0 rfl) ?_
    refine ro_V (As := []) (h0 := ad 0 0) (rest := []) (v := smI (c.I 11) (c.R 10 1)) hx hb hml hown hC hS hAb (mX3_allFines l hX  ) kV_X3_313 ⟨rfl, rfl⟩ ⟨Nat.le_of_ble_eq_true rfl, Nat.le_of_ble_eq_true rfl⟩ (hP.recv hC cX_0 rfl) rfl hl (Nat.le_of_ble_eq_true rfl) ⟨Nat.zero_le _, Nat.zero_le _⟩ dX3_many_114 ?_
    exact ro_iret (x := smI (c.I 11) (c.R 10 1)) hx hb hr hlocks hU (by rw [c_1]; rfl) dX3_many_117
  have c_1n8 := c_1
  clear c_1
  by_cases c_1 : nI w = nI 9
  · skip
    refine lv_tableIn (tgt := 118) (off := 117) hx hb dX3_many_1 (by rw [c_1]; decide) (by rw [c_1]; decide) (by rw [c_1]; decide) (by decide) ?_
    refine lv_aload_n hx hb dX3_many_118 rfl (lv_at hl 0 rfl) ?_
    refine ro_V (As := []) (h0 := ad 0 0) (rest := []) (v := smI (c.I 14) (c.R 10 1)) hx hb hml hown hC hS hAb (mX3_allOwed l hX  ) kV_X3_316 ⟨rfl, rfl⟩ ⟨Nat.le_of_ble_eq_true rfl, Nat.le_of_ble_eq_true rfl⟩ (hP.recv hC cX_0 rfl) rfl hl (Nat.le_of_ble_eq_true rfl) ⟨Nat.zero_le _, Nat.zero_le _⟩ dX3_many_119 ?_
    exact ro_iret (x := smI (c.I 14) (c.R 10 1)) hx hb hr hlocks hU (by rw [c_1]; rfl) dX3_many_122
  have c_1n9 := c_1
  clear c_1
  by_cases c_1 : nI w = nI 10
  · skip
    refine lv_tableIn (tgt := 123) (off := 122) hx hb dX3_many_1 (by rw [c_1]; decide) (by rw [c_1]; decide) (by rw [c_1]; decide) (by decide) ?_
    refine lv_aload_n hx hb dX3_many_123 rfl (lv_at hl 0 rfl) ?_
    refine pi_get hx hb hC hown hP fL_X3_29 0 0 cX_0 (v := .int (c.I 1 0)) rfl dX3_many_124 ?_
    exact ro_iret (x := c.I 1 0) hx hb hr hlocks hU (by rw [c_1]; rfl) dX3_many_127
  have c_1n10 := c_1
  clear c_1
  by_cases c_1 : nI w = nI 11
  · skip
    refine lv_tableIn (tgt := 128) (off := 127) hx hb dX3_many_1 (by rw [c_1]; decide) (by rw [c_1]; decide) (by rw [c_1]; decide) (by decide) ?_
    refine lv_aload_n hx hb dX3_many_128 rfl (lv_at hl 0 rfl) ?_
    refine ro_V (As := []) (h0 := ad 0 0) (rest := []) (v := nI (cntN (lwsB c) (c.R 10 2))) hx hb hml hown hC hS hAb (mX3_layersWithWrongSuspect l hX  ) kV_X3_319 ⟨rfl, rfl⟩ ⟨Nat.le_of_ble_eq_true rfl, Nat.le_of_ble_eq_true rfl⟩ (hP.recv hC cX_0 rfl) rfl hl (Nat.le_of_ble_eq_true rfl) ⟨Nat.zero_le _, Nat.zero_le _⟩ dX3_many_129 ?_
    exact ro_iret (x := nI (cntN (lwsB c) (c.R 10 2))) hx hb hr hlocks hU (by rw [c_1]; rfl) dX3_many_132
  have c_1n11 := c_1
  clear c_1
  exact (sw_dead 12 (w := w) (by omega) (fun k hk => by match k, hk with | 0, _ => exact c_1n0 | 1, _ => exact c_1n1 | 2, _ => exact c_1n2 | 3, _ => exact c_1n3 | 4, _ => exact c_1n4 | 5, _ => exact c_1n5 | 6, _ => exact c_1n6 | 7, _ => exact c_1n7 | 8, _ => exact c_1n8 | 9, _ => exact c_1n9 | 10, _ => exact c_1n10 | 11, _ => exact c_1n11)).elim
set_option maxHeartbeats 4000000 in
set_option maxRecDepth 100000 in
theorem mX3_many_b (l : Launch) (hst : l.stackTraces = false) {E : En} {c : Cy} {ly : Ly} {L : List Nat} {ad : Nat → Nat → Nat} {H : Heap} (hX : PX E c ly L ad H) (w : Int32) (hw : isInS w (nI 0) (nI 11) = false) : ExI l yX3_many cX3_many 2 .int 6 90 [.ref (ad 0 0), .int w] E H 1 (fun _ => xIA) 0 := by
  obtain ⟨hP, hly, hLb, wf⟩ := id hX
  refine ex_of (by decide) (Nat.le_of_ble_eq_true rfl) ?_
  intro p e s m below meth co ls hx hb hr hml hown hlocks hout hC hU hl
  have hS : va_S noA s.heap H [] := by rw [hU]; exact va_S.rf
  have hAb : ∀ q, noA q → bA E q := fun _ h => h.elim
  have hl : lv_has ls 2 [(0, .ref (ad 0 0)), (1, .int w)] := hl
  refine lv_iload_n hx hb dX3_many_0 rfl (lv_at hl 1 rfl) ?_
  by_cases c_1 : w = nI 0
  · skip
    exact absurd hw (by rw [c_1]; decide)
  have c_1n0 := c_1
  clear c_1
  by_cases c_1 : w = nI 1
  · skip
    exact absurd hw (by rw [c_1]; decide)
  have c_1n1 := c_1
  clear c_1
  by_cases c_1 : w = nI 2
  · skip
    exact absurd hw (by rw [c_1]; decide)
  have c_1n2 := c_1
  clear c_1
  by_cases c_1 : w = nI 3
  · skip
    exact absurd hw (by rw [c_1]; decide)
  have c_1n3 := c_1
  clear c_1
  by_cases c_1 : w = nI 4
  · skip
    exact absurd hw (by rw [c_1]; decide)
  have c_1n4 := c_1
  clear c_1
  by_cases c_1 : w = nI 5
  · skip
    exact absurd hw (by rw [c_1]; decide)
  have c_1n5 := c_1
  clear c_1
  by_cases c_1 : w = nI 6
  · skip
    exact absurd hw (by rw [c_1]; decide)
  have c_1n6 := c_1
  clear c_1
  by_cases c_1 : w = nI 7
  · skip
    exact absurd hw (by rw [c_1]; decide)
  have c_1n7 := c_1
  clear c_1
  by_cases c_1 : w = nI 8
  · skip
    exact absurd hw (by rw [c_1]; decide)
  have c_1n8 := c_1
  clear c_1
  by_cases c_1 : w = nI 9
  · skip
    exact absurd hw (by rw [c_1]; decide)
  have c_1n9 := c_1
  clear c_1
  by_cases c_1 : w = nI 10
  · skip
    exact absurd hw (by rw [c_1]; decide)
  have c_1n10 := c_1
  clear c_1
  by_cases c_1 : w = nI 11
  · skip
    exact absurd hw (by rw [c_1]; decide)
  have c_1n11 := c_1
  clear c_1
  refine lv_tableOut (tgt := 133) hx hb dX3_many_1 (sw_out 12 (fun k hk => by match k, hk with | 0, _ => exact c_1n0 | 1, _ => exact c_1n1 | 2, _ => exact c_1n2 | 3, _ => exact c_1n3 | 4, _ => exact c_1n4 | 5, _ => exact c_1n5 | 6, _ => exact c_1n6 | 7, _ => exact c_1n7 | 8, _ => exact c_1n8 | 9, _ => exact c_1n9 | 10, _ => exact c_1n10 | 11, _ => exact c_1n11)) (by decide) ?_
  exact ex_throwR (j := 15) hx hb hst hC hU hown wCl_X3_36 tx_IA (by decide +kernel) rfl (hl.1.trans hml.symm) (Or.inr ⟨dX3_many_137, dX3_many_140, dX3_many_143⟩) dX3_many_133 dX3_many_136 hout ⟨Nat.le_of_ble_eq_true rfl, Nat.le_of_ble_eq_true rfl⟩ hlocks ⟨by decide, rfl⟩
set_option maxHeartbeats 4000000 in
set_option maxRecDepth 100000 in
theorem mX3_shows_g (l : Launch) {E : En} {c : Cy} {ly : Ly} {L : List Nat} {ad : Nat → Nat → Nat} {H : Heap} (hX : PX E c ly L ad H) (i k : Nat) (hi : i < c.R 10 0) (hk : k < c.R 1 i) : RoI l yX3_shows cX3_shows 5 .int (rmk 4 0 0 85) [.ref (ad 0 0), .int (nI i), .int (nI k)] E H (shI c i k) := by
  obtain ⟨hP, hly, hLb, wf⟩ := id hX
  refine ro_of (by decide) (Nat.le_of_ble_eq_true rfl) ?_
  intro p e s m below meth co ls hx hb hr hml hown hlocks hnm hC hU hl
  have hS : va_S noA s.heap H [] := by rw [hU]; exact va_S.rf
  have hAb : ∀ q, noA q → bA E q := fun _ h => h.elim
  have hl : lv_has ls 5 [(0, .ref (ad 0 0)), (1, .int (nI i)), (2, .int (nI k))] := hl
  refine lv_aload_n hx hb dX3_shows_0 rfl (lv_at hl 0 rfl) ?_
  refine lv_iload_n hx hb dX3_shows_1 rfl (lv_at hl 1 rfl) ?_
  refine ro_VR (As := [.int (nI i)]) (h0 := ad 0 0) (rest := []) (v := some (ad 3 i)) hx hb hml hown hC hS hAb (mX3_wallAt_g l hX i (by first | assumption | omega | (simp only [decide_eq_false_iff_not, decide_eq_true_eq] at *; omega))) kV_X3_68 ⟨rfl, rfl⟩ ⟨Nat.le_of_ble_eq_true rfl, Nat.le_of_ble_eq_true rfl⟩ (hP.recv hC cX_0 rfl) rfl hl (Nat.le_of_ble_eq_true rfl) ⟨Nat.zero_le _, Nat.zero_le _⟩ dX3_shows_2 ?_
  have hg_1 : i < c.R 11 0 := by have := wf.sw; have := wf.sh'; have := wf.sl; omega
  refine lv_astore_n (lv' := [(3, .ref (ad 3 i)), (0, .ref (ad 0 0)), (1, .int (nI i)), (2, .int (nI k))]) hx hb dX3_shows_5 rfl hl (by decide) rfl (fun ls hl => ?_)
  refine lv_iload_n hx hb dX3_shows_6 rfl (lv_at hl 3 rfl) ?_
  refine lv_iconstN hx hb 0 dX3_shows_7 (by decide) ?_
  refine lv_aload_n hx hb dX3_shows_8 rfl (lv_at hl 0 rfl) ?_
  refine pi_get hx hb hC hown hP fL_X3_154 3 i (cX_3 hg_1) (v := .int (nI (c.R 1 i))) rfl dX3_shows_9 ?_
  have g_2 := wf.wd hg_1
  refine lv_iconstN hx hb 1 dX3_shows_12 (by decide) ?_
  refine lv_isub hx hb dX3_shows_13 ?_
  refine ro_S (As := [.int (nI k), .int (nI 0), .int ((nI (c.R 1 i)) - (nI 1))]) (rest := []) (v := bI (isInS (nI k) (nI 0) ((nI (c.R 1 i)) - (nI 1)))) hx hb hml hown hC hS hAb (mX3_isWithin l (nI k) (nI 0) ((nI (c.R 1 i)) - (nI 1)) ) kS_X3_32 ⟨rfl, rfl⟩ ⟨Nat.le_of_ble_eq_true rfl, Nat.le_of_ble_eq_true rfl⟩ rfl hl (Nat.le_of_ble_eq_true rfl) ⟨Nat.zero_le _, Nat.zero_le _⟩ dX3_shows_14 ?_
  refine lv_bif_ne (tgt := 30) hx hb dX3_shows_17 (by decide) (fun c_17 => ?_) (fun c_17 => ?_)
  · skip
    refine lv_aload_n hx hb dX3_shows_30 rfl (lv_at hl 0 rfl) ?_
    refine pi_get hx hb hC hown hP fL_X3_161 3 i (cX_3 hg_1) (v := .ref (ad 4 i)) rfl dX3_shows_31 ?_
    have g_3 := wf.wd hg_1
    refine lv_iload_n hx hb dX3_shows_34 rfl (lv_at hl 3 rfl) ?_
    refine pi_rald (n := c.R 1 i) hx hb hC hP 4 i 1 rfl (cX_4 hg_1) (j := k) (by first | assumption | omega) (by omega) dX3_shows_35 (fun ed_35 => ?_) (fun y35 ed_35 => ?_)
    · skip
      have d_35 : c.sh i k = none := sh_none ed_35
      refine lv_astoreN (lv' := [(4, .null), (3, .ref (ad 3 i)), (0, .ref (ad 0 0)), (1, .int (nI i)), (2, .int (nI k))]) hx hb dX3_shows_36 hl (by decide) rfl (fun ls hl => ?_)
      refine lv_aloadN hx hb dX3_shows_38 (lv_at hl 0 rfl) ?_
      refine lv_ifnonnullN hx hb dX3_shows_40 ?_
      refine lv_iconst (v := -1) hx hb dX3_shows_43 (by decide) ?_
      refine lv_goto (tgt := 52) hx hb dX3_shows_44 (by decide) ?_
      exact ro_iret (x := (-1)) hx hb hr hlocks hU (by first | exact (shI_n d_35).symm | exact (shI_s d_35).symm) dX3_shows_52
    · skip
      obtain ⟨j_35, d_35, rfl⟩ := sh_some ed_35
      have d_35 : c.sh i k = some j_35 := d_35
      have hj_35 : j_35 < c.R 11 2 := wf.sj hg_1 (show k < c.R 1 i by first | assumption | omega) d_35
      refine lv_astore (lv' := [(4, .ref (ad 7 j_35)), (3, .ref (ad 3 i)), (0, .ref (ad 0 0)), (1, .int (nI i)), (2, .int (nI k))]) hx hb dX3_shows_36 hl (by decide) rfl (fun ls hl => ?_)
      refine lv_aload hx hb dX3_shows_38 (lv_at hl 0 rfl) ?_
      refine lv_ifnonnull (tgt := 47) hx hb dX3_shows_40 (by decide) ?_
      refine lv_aload hx hb dX3_shows_47 (lv_at hl 0 rfl) ?_
      refine pi_get hx hb hC hown hP fL_X3_240 7 j_35 (cX_7 hj_35) (v := .int (nI j_35)) rfl dX3_shows_49 ?_
      have g_4 := wf.nl
      exact ro_iret (x := nI j_35) hx hb hr hlocks hU (by first | exact (shI_n d_35).symm | exact (shI_s d_35).symm) dX3_shows_52
  · skip
    exact absurd (c_17.symm.trans (isIn_t hk (by have := wf.sw; have := wf.wd (i := i) (by omega); omega))) (by decide)
set_option maxHeartbeats 4000000 in
set_option maxRecDepth 100000 in
theorem mX3_shows_b1 (l : Launch) (hst : l.stackTraces = false) {E : En} {c : Cy} {ly : Ly} {L : List Nat} {ad : Nat → Nat → Nat} {H : Heap} (hX : PX E c ly L ad H) (v w : Int32) (hv : isInS v (nI 0) (nI (c.R 10 0) - nI 1) = false) : ExI l yX3_shows cX3_shows 5 .int 7 111 [.ref (ad 0 0), .int v, .int w] E H 1 (fun _ => xIO) 0 := by
  obtain ⟨hP, hly, hLb, wf⟩ := id hX
  refine ex_of (by decide) (Nat.le_of_ble_eq_true rfl) ?_
  intro p e s m below meth co ls hx hb hr hml hown hlocks hout hC hU hl
  have hS : va_S noA s.heap H [] := by rw [hU]; exact va_S.rf
  have hAb : ∀ q, noA q → bA E q := fun _ h => h.elim
  have hl : lv_has ls 5 [(0, .ref (ad 0 0)), (1, .int v), (2, .int w)] := hl
  refine lv_aload_n hx hb dX3_shows_0 rfl (lv_at hl 0 rfl) ?_
  refine lv_iload_n hx hb dX3_shows_1 rfl (lv_at hl 1 rfl) ?_
  exact ex_VR (As := [.int v]) (h0 := ad 0 0) (rest := []) hx hb hml hown hlocks hout hC hU (mX3_wallAt_b l hst hX v (by first | assumption | omega)) kV_X3_68 ⟨Nat.le_of_ble_eq_true rfl, Nat.le_of_ble_eq_true rfl⟩ (fun _ => ⟨by decide, rfl⟩) (hP.recv hC cX_0 rfl) rfl hl (Nat.le_of_ble_eq_true rfl) dX3_shows_2 (fun h => absurd h (by decide))
set_option maxHeartbeats 4000000 in
set_option maxRecDepth 100000 in
theorem mX3_shows_b2 (l : Launch) (hst : l.stackTraces = false) {E : En} {c : Cy} {ly : Ly} {L : List Nat} {ad : Nat → Nat → Nat} {H : Heap} (hX : PX E c ly L ad H) (i : Nat) (w : Int32) (hi : i < c.R 10 0) (hw : isInS w (nI 0) (nI (c.R 1 i) - nI 1) = false) : ExI l yX3_shows cX3_shows 5 .int 6 90 [.ref (ad 0 0), .int (nI i), .int w] E H 1 (fun _ => xIO) 0 := by
  obtain ⟨hP, hly, hLb, wf⟩ := id hX
  refine ex_of (by decide) (Nat.le_of_ble_eq_true rfl) ?_
  intro p e s m below meth co ls hx hb hr hml hown hlocks hout hC hU hl
  have hS : va_S noA s.heap H [] := by rw [hU]; exact va_S.rf
  have hAb : ∀ q, noA q → bA E q := fun _ h => h.elim
  have hl : lv_has ls 5 [(0, .ref (ad 0 0)), (1, .int (nI i)), (2, .int w)] := hl
  refine lv_aload_n hx hb dX3_shows_0 rfl (lv_at hl 0 rfl) ?_
  refine lv_iload_n hx hb dX3_shows_1 rfl (lv_at hl 1 rfl) ?_
  refine ro_VR (As := [.int (nI i)]) (h0 := ad 0 0) (rest := []) (v := some (ad 3 i)) hx hb hml hown hC hS hAb (mX3_wallAt_g l hX i (by first | assumption | omega | (simp only [decide_eq_false_iff_not, decide_eq_true_eq] at *; omega))) kV_X3_68 ⟨rfl, rfl⟩ ⟨Nat.le_of_ble_eq_true rfl, Nat.le_of_ble_eq_true rfl⟩ (hP.recv hC cX_0 rfl) rfl hl (Nat.le_of_ble_eq_true rfl) ⟨Nat.zero_le _, Nat.zero_le _⟩ dX3_shows_2 ?_
  have hg_1 : i < c.R 11 0 := by have := wf.sw; have := wf.sh'; have := wf.sl; omega
  refine lv_astore_n (lv' := [(3, .ref (ad 3 i)), (0, .ref (ad 0 0)), (1, .int (nI i)), (2, .int w)]) hx hb dX3_shows_5 rfl hl (by decide) rfl (fun ls hl => ?_)
  refine lv_iload_n hx hb dX3_shows_6 rfl (lv_at hl 3 rfl) ?_
  refine lv_iconstN hx hb 0 dX3_shows_7 (by decide) ?_
  refine lv_aload_n hx hb dX3_shows_8 rfl (lv_at hl 0 rfl) ?_
  refine pi_get hx hb hC hown hP fL_X3_154 3 i (cX_3 hg_1) (v := .int (nI (c.R 1 i))) rfl dX3_shows_9 ?_
  have g_2 := wf.wd hg_1
  refine lv_iconstN hx hb 1 dX3_shows_12 (by decide) ?_
  refine lv_isub hx hb dX3_shows_13 ?_
  refine ro_S (As := [.int w, .int (nI 0), .int ((nI (c.R 1 i)) - (nI 1))]) (rest := []) (v := bI (isInS w (nI 0) ((nI (c.R 1 i)) - (nI 1)))) hx hb hml hown hC hS hAb (mX3_isWithin l w (nI 0) ((nI (c.R 1 i)) - (nI 1)) ) kS_X3_32 ⟨rfl, rfl⟩ ⟨Nat.le_of_ble_eq_true rfl, Nat.le_of_ble_eq_true rfl⟩ rfl hl (Nat.le_of_ble_eq_true rfl) ⟨Nat.zero_le _, Nat.zero_le _⟩ dX3_shows_14 ?_
  refine lv_bif_ne (tgt := 30) hx hb dX3_shows_17 (by decide) (fun c_17 => ?_) (fun c_17 => ?_)
  · skip
    exact absurd (c_17.symm.trans hw) (by decide)
  · skip
    exact ex_throwR (j := 18) hx hb hst hC hU hown wCl_X3_235 tx_IO (by decide +kernel) rfl (hl.1.trans hml.symm) (Or.inl ⟨dX3_shows_24, dX3_shows_26, dX3_shows_29⟩) dX3_shows_20 dX3_shows_23 hout ⟨Nat.le_of_ble_eq_true rfl, Nat.le_of_ble_eq_true rfl⟩ hlocks ⟨by decide, rfl⟩
set_option maxHeartbeats 4000000 in
set_option maxRecDepth 100000 in
theorem mX3_wrongs_g (l : Launch) {E : En} {c : Cy} {ly : Ly} {L : List Nat} {ad : Nat → Nat → Nat} {H : Heap} (hX : PX E c ly L ad H) (h g : Nat) (hh : h < c.R 10 1) (hg : g < c.R 10 1) : RoI l yX3_wrongs cX3_wrongs 5 .int (rmk 4 0 0 85) [.ref (ad 0 0), .int (nI h), .int (nI g)] E H (c.Wr h g) := by
  obtain ⟨hP, hly, hLb, wf⟩ := id hX
  refine ro_of (by decide) (Nat.le_of_ble_eq_true rfl) ?_
  intro p e s m below meth co ls hx hb hr hml hown hlocks hnm hC hU hl
  have hS : va_S noA s.heap H [] := by rw [hU]; exact va_S.rf
  have hAb : ∀ q, noA q → bA E q := fun _ h => h.elim
  have hl : lv_has ls 5 [(0, .ref (ad 0 0)), (1, .int (nI h)), (2, .int (nI g))] := hl
  have gn := wf.nh
  have gs := wf.sh'
  refine lv_aload_n hx hb dX3_wrongs_0 rfl (lv_at hl 0 rfl) ?_
  refine lv_iload_n hx hb dX3_wrongs_1 rfl (lv_at hl 1 rfl) ?_
  refine ro_VR (As := [.int (nI h)]) (h0 := ad 0 0) (rest := []) (v := some (ad 5 h)) hx hb hml hown hC hS hAb (mX3_handAt_g l hX h (by first | assumption | omega | (simp only [decide_eq_false_iff_not, decide_eq_true_eq] at *; omega))) kV_X3_92 ⟨rfl, rfl⟩ ⟨Nat.le_of_ble_eq_true rfl, Nat.le_of_ble_eq_true rfl⟩ (hP.recv hC cX_0 rfl) rfl hl (Nat.le_of_ble_eq_true rfl) ⟨Nat.zero_le _, Nat.zero_le _⟩ dX3_wrongs_2 ?_
  have hg_1 : h < c.R 11 1 := by have := wf.sw; have := wf.sh'; have := wf.sl; omega
  refine lv_astore_n (lv' := [(3, .ref (ad 5 h)), (0, .ref (ad 0 0)), (1, .int (nI h)), (2, .int (nI g))]) hx hb dX3_wrongs_5 rfl hl (by decide) rfl (fun ls hl => ?_)
  refine lv_aload_n hx hb dX3_wrongs_6 rfl (lv_at hl 1 rfl) ?_
  refine lv_iload_n hx hb dX3_wrongs_7 rfl (lv_at hl 3 rfl) ?_
  refine ro_VR (As := [.int (nI g)]) (h0 := ad 0 0) (rest := []) (v := some (ad 5 g)) hx hb hml hown hC hS hAb (mX3_handAt_g l hX g (by first | assumption | omega | (simp only [decide_eq_false_iff_not, decide_eq_true_eq] at *; omega))) kV_X3_92 ⟨rfl, rfl⟩ ⟨Nat.le_of_ble_eq_true rfl, Nat.le_of_ble_eq_true rfl⟩ (hP.recv hC cX_0 rfl) rfl hl (Nat.le_of_ble_eq_true rfl) ⟨Nat.zero_le _, Nat.zero_le _⟩ dX3_wrongs_8 ?_
  have hg_2 : g < c.R 11 1 := by have := wf.sw; have := wf.sh'; have := wf.sl; omega
  refine lv_astore (lv' := [(4, .ref (ad 5 g)), (3, .ref (ad 5 h)), (0, .ref (ad 0 0)), (1, .int (nI h)), (2, .int (nI g))]) hx hb dX3_wrongs_11 hl (by decide) rfl (fun ls hl => ?_)
  refine lv_aload_n hx hb dX3_wrongs_13 rfl (lv_at hl 1 rfl) ?_
  refine pi_get hx hb hC hown hP fL_X3_295 5 h (cX_5 hg_1) (v := .ref (ad 6 h)) rfl dX3_wrongs_14 ?_
  refine lv_aload hx hb dX3_wrongs_17 (lv_at hl 0 rfl) ?_
  refine pi_get hx hb hC hown hP fL_X3_270 5 g (cX_5 hg_2) (v := .int (nI g)) rfl dX3_wrongs_19 ?_
  have g_3 := wf.nh
  refine pi_iald hx hb hC hP 6 h (cX_6 hg_1) (j := g) (by omega) (by omega) dX3_wrongs_22 ?_
  exact ro_iret (x := c.Wr h g) hx hb hr hlocks hU (by first | rfl | (simp []; done) | (simp []; omega) | (simp_all []; done)) dX3_wrongs_23
set_option maxHeartbeats 4000000 in
set_option maxRecDepth 100000 in
theorem mX3_wrongs_b1 (l : Launch) (hst : l.stackTraces = false) {E : En} {c : Cy} {ly : Ly} {L : List Nat} {ad : Nat → Nat → Nat} {H : Heap} (hX : PX E c ly L ad H) (v w : Int32) (hv : isInS v (nI 0) (nI (c.R 10 1) - nI 1) = false) : ExI l yX3_wrongs cX3_wrongs 5 .int 7 111 [.ref (ad 0 0), .int v, .int w] E H 1 (fun _ => xIO) 0 := by
  obtain ⟨hP, hly, hLb, wf⟩ := id hX
  refine ex_of (by decide) (Nat.le_of_ble_eq_true rfl) ?_
  intro p e s m below meth co ls hx hb hr hml hown hlocks hout hC hU hl
  have hS : va_S noA s.heap H [] := by rw [hU]; exact va_S.rf
  have hAb : ∀ q, noA q → bA E q := fun _ h => h.elim
  have hl : lv_has ls 5 [(0, .ref (ad 0 0)), (1, .int v), (2, .int w)] := hl
  refine lv_aload_n hx hb dX3_wrongs_0 rfl (lv_at hl 0 rfl) ?_
  refine lv_iload_n hx hb dX3_wrongs_1 rfl (lv_at hl 1 rfl) ?_
  exact ex_VR (As := [.int v]) (h0 := ad 0 0) (rest := []) hx hb hml hown hlocks hout hC hU (mX3_handAt_b l hst hX v (by first | assumption | omega)) kV_X3_92 ⟨Nat.le_of_ble_eq_true rfl, Nat.le_of_ble_eq_true rfl⟩ (fun _ => ⟨by decide, rfl⟩) (hP.recv hC cX_0 rfl) rfl hl (Nat.le_of_ble_eq_true rfl) dX3_wrongs_2 (fun h => absurd h (by decide))
set_option maxHeartbeats 4000000 in
set_option maxRecDepth 100000 in
theorem mX3_wrongs_b2 (l : Launch) (hst : l.stackTraces = false) {E : En} {c : Cy} {ly : Ly} {L : List Nat} {ad : Nat → Nat → Nat} {H : Heap} (hX : PX E c ly L ad H) (h : Nat) (v : Int32) (hh : h < c.R 10 1) (hv : isInS v (nI 0) (nI (c.R 10 1) - nI 1) = false) : ExI l yX3_wrongs cX3_wrongs 5 .int 7 111 [.ref (ad 0 0), .int (nI h), .int v] E H 1 (fun _ => xIO) 0 := by
  obtain ⟨hP, hly, hLb, wf⟩ := id hX
  refine ex_of (by decide) (Nat.le_of_ble_eq_true rfl) ?_
  intro p e s m below meth co ls hx hb hr hml hown hlocks hout hC hU hl
  have hS : va_S noA s.heap H [] := by rw [hU]; exact va_S.rf
  have hAb : ∀ q, noA q → bA E q := fun _ h => h.elim
  have hl : lv_has ls 5 [(0, .ref (ad 0 0)), (1, .int (nI h)), (2, .int v)] := hl
  refine lv_aload_n hx hb dX3_wrongs_0 rfl (lv_at hl 0 rfl) ?_
  refine lv_iload_n hx hb dX3_wrongs_1 rfl (lv_at hl 1 rfl) ?_
  refine ro_VR (As := [.int (nI h)]) (h0 := ad 0 0) (rest := []) (v := some (ad 5 h)) hx hb hml hown hC hS hAb (mX3_handAt_g l hX h (by first | assumption | omega | (simp only [decide_eq_false_iff_not, decide_eq_true_eq] at *; omega))) kV_X3_92 ⟨rfl, rfl⟩ ⟨Nat.le_of_ble_eq_true rfl, Nat.le_of_ble_eq_true rfl⟩ (hP.recv hC cX_0 rfl) rfl hl (Nat.le_of_ble_eq_true rfl) ⟨Nat.zero_le _, Nat.zero_le _⟩ dX3_wrongs_2 ?_
  have hg_1 : h < c.R 11 1 := by have := wf.sw; have := wf.sh'; have := wf.sl; omega
  refine lv_astore_n (lv' := [(3, .ref (ad 5 h)), (0, .ref (ad 0 0)), (1, .int (nI h)), (2, .int v)]) hx hb dX3_wrongs_5 rfl hl (by decide) rfl (fun ls hl => ?_)
  refine lv_aload_n hx hb dX3_wrongs_6 rfl (lv_at hl 1 rfl) ?_
  refine lv_iload_n hx hb dX3_wrongs_7 rfl (lv_at hl 3 rfl) ?_
  exact ex_VR (As := [.int v]) (h0 := ad 0 0) (rest := []) hx hb hml hown hlocks hout hC hU (mX3_handAt_b l hst hX v (by first | assumption | omega)) kV_X3_92 ⟨Nat.le_of_ble_eq_true rfl, Nat.le_of_ble_eq_true rfl⟩ (fun _ => ⟨by decide, rfl⟩) (hP.recv hC cX_0 rfl) rfl hl (Nat.le_of_ble_eq_true rfl) dX3_wrongs_8 (fun h => absurd h (by decide))



set_option maxHeartbeats 4000000 in
set_option maxRecDepth 100000 in
theorem mX3_wouldWrong_g (l : Launch) {E : En} {c : Cy} {ly : Ly} {L : List Nat} {ad : Nat → Nat → Nat} {H : Heap} (hX : PX E c ly L ad H) (h i f u kd : Nat) (hh : h < c.R 10 1) (hi : i < c.R 10 0) (hf : f + u ≤ c.R 1 i) (hu : 1 ≤ u) (hkd : kd < 4) : RoI l yX3_wouldWrong cX3_wouldWrong 8 .int (rmk 5 0 0 120) [.ref (ad 0 0), .int (nI h), .int (nI i), .int (nI f), .int (nI u), .int (nI kd)] E H (nI (cwrS c h i f u kd)) := by
  obtain ⟨hP, hly, hLb, wf⟩ := id hX
  refine ro_of (by decide) (Nat.le_of_ble_eq_true rfl) ?_
  intro p e s m below meth co ls hx hb hr hml hown hlocks hnm hC hU hl
  have hS : va_S noA s.heap H [] := by rw [hU]; exact va_S.rf
  have hAb : ∀ q, noA q → bA E q := fun _ h => h.elim
  have hl : lv_has ls 8 [(0, .ref (ad 0 0)), (1, .int (nI h)), (2, .int (nI i)), (3, .int (nI f)), (4, .int (nI u)), (5, .int (nI kd))] := hl
  refine lv_aload_n hx hb dX3_wouldWrong_0 rfl (lv_at hl 0 rfl) ?_
  refine lv_iload_n hx hb dX3_wouldWrong_1 rfl (lv_at hl 1 rfl) ?_
  refine ro_VR (As := [.int (nI h)]) (h0 := ad 0 0) (rest := []) (v := some (ad 5 h)) hx hb hml hown hC hS hAb (mX3_handAt_g l hX h (by first | assumption | omega | (simp only [decide_eq_false_iff_not, decide_eq_true_eq] at *; omega))) kV_X3_92 ⟨rfl, rfl⟩ ⟨Nat.le_of_ble_eq_true rfl, Nat.le_of_ble_eq_true rfl⟩ (hP.recv hC cX_0 rfl) rfl hl (Nat.le_of_ble_eq_true rfl) ⟨Nat.zero_le _, Nat.zero_le _⟩ dX3_wouldWrong_2 ?_
  have hg_1 : h < c.R 11 1 := by have := wf.sw; have := wf.sh'; have := wf.sl; omega
  refine lv_astore (lv' := [(6, .ref (ad 5 h)), (0, .ref (ad 0 0)), (1, .int (nI h)), (2, .int (nI i)), (3, .int (nI f)), (4, .int (nI u)), (5, .int (nI kd))]) hx hb dX3_wouldWrong_5 hl (by decide) rfl (fun ls hl => ?_)
  refine lv_aload_n hx hb dX3_wouldWrong_7 rfl (lv_at hl 1 rfl) ?_
  refine lv_iload_n hx hb dX3_wouldWrong_8 rfl (lv_at hl 3 rfl) ?_
  refine ro_VR (As := [.int (nI i)]) (h0 := ad 0 0) (rest := []) (v := some (ad 3 i)) hx hb hml hown hC hS hAb (mX3_wallAt_g l hX i (by first | assumption | omega | (simp only [decide_eq_false_iff_not, decide_eq_true_eq] at *; omega))) kV_X3_68 ⟨rfl, rfl⟩ ⟨Nat.le_of_ble_eq_true rfl, Nat.le_of_ble_eq_true rfl⟩ (hP.recv hC cX_0 rfl) rfl hl (Nat.le_of_ble_eq_true rfl) ⟨Nat.zero_le _, Nat.zero_le _⟩ dX3_wouldWrong_9 ?_
  have hg_2 : i < c.R 11 0 := by have := wf.sw; have := wf.sh'; have := wf.sl; omega
  refine lv_astore (lv' := [(7, .ref (ad 3 i)), (6, .ref (ad 5 h)), (0, .ref (ad 0 0)), (1, .int (nI h)), (2, .int (nI i)), (3, .int (nI f)), (4, .int (nI u)), (5, .int (nI kd))]) hx hb dX3_wouldWrong_12 hl (by decide) rfl (fun ls hl => ?_)
  refine lv_aload hx hb dX3_wouldWrong_14 (lv_at hl 0 rfl) ?_
  refine lv_iload_n hx hb dX3_wouldWrong_16 rfl (lv_at hl 5 rfl) ?_
  refine lv_iload hx hb dX3_wouldWrong_17 (lv_at hl 6 rfl) ?_
  refine ro_V (As := [.int (nI f), .int (nI u)]) (h0 := ad 3 i) (rest := []) (v := bI (hasS c i (nI f) (nI u))) hx hb hml hown hC hS hAb (mX2_hasCells l hX i (nI f) (nI u) hg_2) kV_X3_96 ⟨rfl, rfl⟩ ⟨Nat.le_of_ble_eq_true rfl, Nat.le_of_ble_eq_true rfl⟩ (hP.recv hC (cX_3 hg_2) rfl) rfl hl (Nat.le_of_ble_eq_true rfl) ⟨Nat.zero_le _, Nat.zero_le _⟩ dX3_wouldWrong_19 ?_
  refine lv_bif_eq (tgt := 33) hx hb dX3_wouldWrong_22 (by decide) (fun c_22 => ?_) (fun c_22 => ?_)
  · skip
    exact absurd (c_22.symm.trans (has_t wf (by have := wf.sw; omega) hf hu)) (by decide)
  · skip
    refine lv_iload hx hb dX3_wouldWrong_25 (lv_at hl 7 rfl) ?_
    refine ro_S (As := [.int (nI kd)]) (rest := []) (v := bI (isInS (nI kd) (nI 0) (nI 3))) hx hb hml hown hC hS hAb (mX3_isKind l (nI kd) ) kS_X3_100 ⟨rfl, rfl⟩ ⟨Nat.le_of_ble_eq_true rfl, Nat.le_of_ble_eq_true rfl⟩ rfl hl (Nat.le_of_ble_eq_true rfl) ⟨Nat.zero_le _, Nat.zero_le _⟩ dX3_wouldWrong_27 ?_
    refine lv_bif_ne (tgt := 43) hx hb dX3_wouldWrong_30 (by decide) (fun c_30 => ?_) (fun c_30 => ?_)
    · skip
      refine lv_aload_n hx hb dX3_wouldWrong_43 rfl (lv_at hl 2 rfl) ?_
      refine lv_aload hx hb dX3_wouldWrong_44 (lv_at hl 1 rfl) ?_
      refine lv_aload hx hb dX3_wouldWrong_46 (lv_at hl 0 rfl) ?_
      refine lv_iload_n hx hb dX3_wouldWrong_48 rfl (lv_at hl 5 rfl) ?_
      refine lv_iload hx hb dX3_wouldWrong_49 (lv_at hl 6 rfl) ?_
      refine lv_iload hx hb dX3_wouldWrong_51 (lv_at hl 7 rfl) ?_
      refine ro_V (As := [.ref (ad 5 h), .ref (ad 3 i), .int (nI f), .int (nI u), .int (nI kd)]) (h0 := ad 0 0) (rest := []) (v := nI (cwrS c h i f u kd)) hx hb hml hown hC hS hAb (mX3_countWrongs l hX h i f u kd hg_1 hg_2 (by first | assumption | omega | (simp only [decide_eq_false_iff_not, decide_eq_true_eq] at *; omega)) (by first | assumption | omega | (simp only [decide_eq_false_iff_not, decide_eq_true_eq] at *; omega))) kV_X3_331 ⟨rfl, rfl⟩ ⟨Nat.le_of_ble_eq_true rfl, Nat.le_of_ble_eq_true rfl⟩ (hP.recv hC cX_0 rfl) rfl hl (Nat.le_of_ble_eq_true rfl) ⟨Nat.zero_le _, Nat.zero_le _⟩ dX3_wouldWrong_53 ?_
      exact ro_iret (x := nI (cwrS c h i f u kd)) hx hb hr hlocks hU (by first | rfl | (simp [c_22, c_30]; done) | (simp [c_22, c_30]; omega) | (simp_all [c_22, c_30]; done)) dX3_wouldWrong_56
    · skip
      exact absurd (c_30.symm.trans (isIn_le (by omega) (by decide))) (by decide)
set_option maxHeartbeats 4000000 in
set_option maxRecDepth 100000 in
theorem mX3_wouldWrong_b1 (l : Launch) (hst : l.stackTraces = false) {E : En} {c : Cy} {ly : Ly} {L : List Nat} {ad : Nat → Nat → Nat} {H : Heap} (hX : PX E c ly L ad H) (v w f u kd : Int32) (hv : isInS v (nI 0) (nI (c.R 10 1) - nI 1) = false) : ExI l yX3_wouldWrong cX3_wouldWrong 8 .int 7 111 [.ref (ad 0 0), .int v, .int w, .int f, .int u, .int kd] E H 1 (fun _ => xIO) 0 := by
  obtain ⟨hP, hly, hLb, wf⟩ := id hX
  refine ex_of (by decide) (Nat.le_of_ble_eq_true rfl) ?_
  intro p e s m below meth co ls hx hb hr hml hown hlocks hout hC hU hl
  have hS : va_S noA s.heap H [] := by rw [hU]; exact va_S.rf
  have hAb : ∀ q, noA q → bA E q := fun _ h => h.elim
  have hl : lv_has ls 8 [(0, .ref (ad 0 0)), (1, .int v), (2, .int w), (3, .int f), (4, .int u), (5, .int kd)] := hl
  refine lv_aload_n hx hb dX3_wouldWrong_0 rfl (lv_at hl 0 rfl) ?_
  refine lv_iload_n hx hb dX3_wouldWrong_1 rfl (lv_at hl 1 rfl) ?_
  exact ex_VR (As := [.int v]) (h0 := ad 0 0) (rest := []) hx hb hml hown hlocks hout hC hU (mX3_handAt_b l hst hX v (by first | assumption | omega)) kV_X3_92 ⟨Nat.le_of_ble_eq_true rfl, Nat.le_of_ble_eq_true rfl⟩ (fun _ => ⟨by decide, rfl⟩) (hP.recv hC cX_0 rfl) rfl hl (Nat.le_of_ble_eq_true rfl) dX3_wouldWrong_2 (fun h => absurd h (by decide))
set_option maxHeartbeats 4000000 in
set_option maxRecDepth 100000 in
theorem mX3_wouldWrong_b2 (l : Launch) (hst : l.stackTraces = false) {E : En} {c : Cy} {ly : Ly} {L : List Nat} {ad : Nat → Nat → Nat} {H : Heap} (hX : PX E c ly L ad H) (h : Nat) (v f u kd : Int32) (hh : h < c.R 10 1) (hv : isInS v (nI 0) (nI (c.R 10 0) - nI 1) = false) : ExI l yX3_wouldWrong cX3_wouldWrong 8 .int 7 111 [.ref (ad 0 0), .int (nI h), .int v, .int f, .int u, .int kd] E H 1 (fun _ => xIO) 0 := by
  obtain ⟨hP, hly, hLb, wf⟩ := id hX
  refine ex_of (by decide) (Nat.le_of_ble_eq_true rfl) ?_
  intro p e s m below meth co ls hx hb hr hml hown hlocks hout hC hU hl
  have hS : va_S noA s.heap H [] := by rw [hU]; exact va_S.rf
  have hAb : ∀ q, noA q → bA E q := fun _ h => h.elim
  have hl : lv_has ls 8 [(0, .ref (ad 0 0)), (1, .int (nI h)), (2, .int v), (3, .int f), (4, .int u), (5, .int kd)] := hl
  refine lv_aload_n hx hb dX3_wouldWrong_0 rfl (lv_at hl 0 rfl) ?_
  refine lv_iload_n hx hb dX3_wouldWrong_1 rfl (lv_at hl 1 rfl) ?_
  refine ro_VR (As := [.int (nI h)]) (h0 := ad 0 0) (rest := []) (v := some (ad 5 h)) hx hb hml hown hC hS hAb (mX3_handAt_g l hX h (by first | assumption | omega | (simp only [decide_eq_false_iff_not, decide_eq_true_eq] at *; omega))) kV_X3_92 ⟨rfl, rfl⟩ ⟨Nat.le_of_ble_eq_true rfl, Nat.le_of_ble_eq_true rfl⟩ (hP.recv hC cX_0 rfl) rfl hl (Nat.le_of_ble_eq_true rfl) ⟨Nat.zero_le _, Nat.zero_le _⟩ dX3_wouldWrong_2 ?_
  have hg_1 : h < c.R 11 1 := by have := wf.sw; have := wf.sh'; have := wf.sl; omega
  refine lv_astore (lv' := [(6, .ref (ad 5 h)), (0, .ref (ad 0 0)), (1, .int (nI h)), (2, .int v), (3, .int f), (4, .int u), (5, .int kd)]) hx hb dX3_wouldWrong_5 hl (by decide) rfl (fun ls hl => ?_)
  refine lv_aload_n hx hb dX3_wouldWrong_7 rfl (lv_at hl 1 rfl) ?_
  refine lv_iload_n hx hb dX3_wouldWrong_8 rfl (lv_at hl 3 rfl) ?_
  exact ex_VR (As := [.int v]) (h0 := ad 0 0) (rest := []) hx hb hml hown hlocks hout hC hU (mX3_wallAt_b l hst hX v (by first | assumption | omega)) kV_X3_68 ⟨Nat.le_of_ble_eq_true rfl, Nat.le_of_ble_eq_true rfl⟩ (fun _ => ⟨by decide, rfl⟩) (hP.recv hC cX_0 rfl) rfl hl (Nat.le_of_ble_eq_true rfl) dX3_wouldWrong_9 (fun h => absurd h (by decide))
set_option maxHeartbeats 4000000 in
set_option maxRecDepth 100000 in
theorem mX3_wouldWrong_b3 (l : Launch) (hst : l.stackTraces = false) {E : En} {c : Cy} {ly : Ly} {L : List Nat} {ad : Nat → Nat → Nat} {H : Heap} (hX : PX E c ly L ad H) (h i : Nat) (f u kd : Int32) (hh : h < c.R 10 1) (hi : i < c.R 10 0) (hf : hasS c i f u = false) : ExI l yX3_wouldWrong cX3_wouldWrong 8 .int 6 90 [.ref (ad 0 0), .int (nI h), .int (nI i), .int f, .int u, .int kd] E H 1 (fun _ => xIA) 0 := by
  obtain ⟨hP, hly, hLb, wf⟩ := id hX
  refine ex_of (by decide) (Nat.le_of_ble_eq_true rfl) ?_
  intro p e s m below meth co ls hx hb hr hml hown hlocks hout hC hU hl
  have hS : va_S noA s.heap H [] := by rw [hU]; exact va_S.rf
  have hAb : ∀ q, noA q → bA E q := fun _ h => h.elim
  have hl : lv_has ls 8 [(0, .ref (ad 0 0)), (1, .int (nI h)), (2, .int (nI i)), (3, .int f), (4, .int u), (5, .int kd)] := hl
  refine lv_aload_n hx hb dX3_wouldWrong_0 rfl (lv_at hl 0 rfl) ?_
  refine lv_iload_n hx hb dX3_wouldWrong_1 rfl (lv_at hl 1 rfl) ?_
  refine ro_VR (As := [.int (nI h)]) (h0 := ad 0 0) (rest := []) (v := some (ad 5 h)) hx hb hml hown hC hS hAb (mX3_handAt_g l hX h (by first | assumption | omega | (simp only [decide_eq_false_iff_not, decide_eq_true_eq] at *; omega))) kV_X3_92 ⟨rfl, rfl⟩ ⟨Nat.le_of_ble_eq_true rfl, Nat.le_of_ble_eq_true rfl⟩ (hP.recv hC cX_0 rfl) rfl hl (Nat.le_of_ble_eq_true rfl) ⟨Nat.zero_le _, Nat.zero_le _⟩ dX3_wouldWrong_2 ?_
  have hg_1 : h < c.R 11 1 := by have := wf.sw; have := wf.sh'; have := wf.sl; omega
  refine lv_astore (lv' := [(6, .ref (ad 5 h)), (0, .ref (ad 0 0)), (1, .int (nI h)), (2, .int (nI i)), (3, .int f), (4, .int u), (5, .int kd)]) hx hb dX3_wouldWrong_5 hl (by decide) rfl (fun ls hl => ?_)
  refine lv_aload_n hx hb dX3_wouldWrong_7 rfl (lv_at hl 1 rfl) ?_
  refine lv_iload_n hx hb dX3_wouldWrong_8 rfl (lv_at hl 3 rfl) ?_
  refine ro_VR (As := [.int (nI i)]) (h0 := ad 0 0) (rest := []) (v := some (ad 3 i)) hx hb hml hown hC hS hAb (mX3_wallAt_g l hX i (by first | assumption | omega | (simp only [decide_eq_false_iff_not, decide_eq_true_eq] at *; omega))) kV_X3_68 ⟨rfl, rfl⟩ ⟨Nat.le_of_ble_eq_true rfl, Nat.le_of_ble_eq_true rfl⟩ (hP.recv hC cX_0 rfl) rfl hl (Nat.le_of_ble_eq_true rfl) ⟨Nat.zero_le _, Nat.zero_le _⟩ dX3_wouldWrong_9 ?_
  have hg_2 : i < c.R 11 0 := by have := wf.sw; have := wf.sh'; have := wf.sl; omega
  refine lv_astore (lv' := [(7, .ref (ad 3 i)), (6, .ref (ad 5 h)), (0, .ref (ad 0 0)), (1, .int (nI h)), (2, .int (nI i)), (3, .int f), (4, .int u), (5, .int kd)]) hx hb dX3_wouldWrong_12 hl (by decide) rfl (fun ls hl => ?_)
  refine lv_aload hx hb dX3_wouldWrong_14 (lv_at hl 0 rfl) ?_
  refine lv_iload_n hx hb dX3_wouldWrong_16 rfl (lv_at hl 5 rfl) ?_
  refine lv_iload hx hb dX3_wouldWrong_17 (lv_at hl 6 rfl) ?_
  refine ro_V (As := [.int f, .int u]) (h0 := ad 3 i) (rest := []) (v := bI (hasS c i f u)) hx hb hml hown hC hS hAb (mX2_hasCells l hX i f u hg_2) kV_X3_96 ⟨rfl, rfl⟩ ⟨Nat.le_of_ble_eq_true rfl, Nat.le_of_ble_eq_true rfl⟩ (hP.recv hC (cX_3 hg_2) rfl) rfl hl (Nat.le_of_ble_eq_true rfl) ⟨Nat.zero_le _, Nat.zero_le _⟩ dX3_wouldWrong_19 ?_
  refine lv_bif_eq (tgt := 33) hx hb dX3_wouldWrong_22 (by decide) (fun c_22 => ?_) (fun c_22 => ?_)
  · skip
    exact ex_throwR (j := 16) hx hb hst hC hU hown wCl_X3_36 tx_IA (by decide +kernel) rfl (hl.1.trans hml.symm) (Or.inl ⟨dX3_wouldWrong_37, dX3_wouldWrong_39, dX3_wouldWrong_42⟩) dX3_wouldWrong_33 dX3_wouldWrong_36 hout ⟨Nat.le_of_ble_eq_true rfl, Nat.le_of_ble_eq_true rfl⟩ hlocks ⟨by decide, rfl⟩
  · skip
    exact absurd (c_22.symm.trans hf) (by decide)
set_option maxHeartbeats 4000000 in
set_option maxRecDepth 100000 in
theorem mX3_wouldWrong_b4 (l : Launch) (hst : l.stackTraces = false) {E : En} {c : Cy} {ly : Ly} {L : List Nat} {ad : Nat → Nat → Nat} {H : Heap} (hX : PX E c ly L ad H) (h i : Nat) (f u kd : Int32) (hh : h < c.R 10 1) (hi : i < c.R 10 0) (hf : hasS c i f u = true) (hk : isInS kd (nI 0) (nI 3) = false) : ExI l yX3_wouldWrong cX3_wouldWrong 8 .int 6 90 [.ref (ad 0 0), .int (nI h), .int (nI i), .int f, .int u, .int kd] E H 1 (fun _ => xIA) 0 := by
  obtain ⟨hP, hly, hLb, wf⟩ := id hX
  refine ex_of (by decide) (Nat.le_of_ble_eq_true rfl) ?_
  intro p e s m below meth co ls hx hb hr hml hown hlocks hout hC hU hl
  have hS : va_S noA s.heap H [] := by rw [hU]; exact va_S.rf
  have hAb : ∀ q, noA q → bA E q := fun _ h => h.elim
  have hl : lv_has ls 8 [(0, .ref (ad 0 0)), (1, .int (nI h)), (2, .int (nI i)), (3, .int f), (4, .int u), (5, .int kd)] := hl
  refine lv_aload_n hx hb dX3_wouldWrong_0 rfl (lv_at hl 0 rfl) ?_
  refine lv_iload_n hx hb dX3_wouldWrong_1 rfl (lv_at hl 1 rfl) ?_
  refine ro_VR (As := [.int (nI h)]) (h0 := ad 0 0) (rest := []) (v := some (ad 5 h)) hx hb hml hown hC hS hAb (mX3_handAt_g l hX h (by first | assumption | omega | (simp only [decide_eq_false_iff_not, decide_eq_true_eq] at *; omega))) kV_X3_92 ⟨rfl, rfl⟩ ⟨Nat.le_of_ble_eq_true rfl, Nat.le_of_ble_eq_true rfl⟩ (hP.recv hC cX_0 rfl) rfl hl (Nat.le_of_ble_eq_true rfl) ⟨Nat.zero_le _, Nat.zero_le _⟩ dX3_wouldWrong_2 ?_
  have hg_1 : h < c.R 11 1 := by have := wf.sw; have := wf.sh'; have := wf.sl; omega
  refine lv_astore (lv' := [(6, .ref (ad 5 h)), (0, .ref (ad 0 0)), (1, .int (nI h)), (2, .int (nI i)), (3, .int f), (4, .int u), (5, .int kd)]) hx hb dX3_wouldWrong_5 hl (by decide) rfl (fun ls hl => ?_)
  refine lv_aload_n hx hb dX3_wouldWrong_7 rfl (lv_at hl 1 rfl) ?_
  refine lv_iload_n hx hb dX3_wouldWrong_8 rfl (lv_at hl 3 rfl) ?_
  refine ro_VR (As := [.int (nI i)]) (h0 := ad 0 0) (rest := []) (v := some (ad 3 i)) hx hb hml hown hC hS hAb (mX3_wallAt_g l hX i (by first | assumption | omega | (simp only [decide_eq_false_iff_not, decide_eq_true_eq] at *; omega))) kV_X3_68 ⟨rfl, rfl⟩ ⟨Nat.le_of_ble_eq_true rfl, Nat.le_of_ble_eq_true rfl⟩ (hP.recv hC cX_0 rfl) rfl hl (Nat.le_of_ble_eq_true rfl) ⟨Nat.zero_le _, Nat.zero_le _⟩ dX3_wouldWrong_9 ?_
  have hg_2 : i < c.R 11 0 := by have := wf.sw; have := wf.sh'; have := wf.sl; omega
  refine lv_astore (lv' := [(7, .ref (ad 3 i)), (6, .ref (ad 5 h)), (0, .ref (ad 0 0)), (1, .int (nI h)), (2, .int (nI i)), (3, .int f), (4, .int u), (5, .int kd)]) hx hb dX3_wouldWrong_12 hl (by decide) rfl (fun ls hl => ?_)
  refine lv_aload hx hb dX3_wouldWrong_14 (lv_at hl 0 rfl) ?_
  refine lv_iload_n hx hb dX3_wouldWrong_16 rfl (lv_at hl 5 rfl) ?_
  refine lv_iload hx hb dX3_wouldWrong_17 (lv_at hl 6 rfl) ?_
  refine ro_V (As := [.int f, .int u]) (h0 := ad 3 i) (rest := []) (v := bI (hasS c i f u)) hx hb hml hown hC hS hAb (mX2_hasCells l hX i f u hg_2) kV_X3_96 ⟨rfl, rfl⟩ ⟨Nat.le_of_ble_eq_true rfl, Nat.le_of_ble_eq_true rfl⟩ (hP.recv hC (cX_3 hg_2) rfl) rfl hl (Nat.le_of_ble_eq_true rfl) ⟨Nat.zero_le _, Nat.zero_le _⟩ dX3_wouldWrong_19 ?_
  refine lv_bif_eq (tgt := 33) hx hb dX3_wouldWrong_22 (by decide) (fun c_22 => ?_) (fun c_22 => ?_)
  · skip
    exact absurd (c_22.symm.trans hf) (by decide)
  · skip
    refine lv_iload hx hb dX3_wouldWrong_25 (lv_at hl 7 rfl) ?_
    refine ro_S (As := [.int kd]) (rest := []) (v := bI (isInS kd (nI 0) (nI 3))) hx hb hml hown hC hS hAb (mX3_isKind l kd ) kS_X3_100 ⟨rfl, rfl⟩ ⟨Nat.le_of_ble_eq_true rfl, Nat.le_of_ble_eq_true rfl⟩ rfl hl (Nat.le_of_ble_eq_true rfl) ⟨Nat.zero_le _, Nat.zero_le _⟩ dX3_wouldWrong_27 ?_
    refine lv_bif_ne (tgt := 43) hx hb dX3_wouldWrong_30 (by decide) (fun c_30 => ?_) (fun c_30 => ?_)
    · skip
      exact absurd (c_30.symm.trans hk) (by decide)
    · skip
      exact ex_throwR (j := 16) hx hb hst hC hU hown wCl_X3_36 tx_IA (by decide +kernel) rfl (hl.1.trans hml.symm) (Or.inl ⟨dX3_wouldWrong_37, dX3_wouldWrong_39, dX3_wouldWrong_42⟩) dX3_wouldWrong_33 dX3_wouldWrong_36 hout ⟨Nat.le_of_ble_eq_true rfl, Nat.le_of_ble_eq_true rfl⟩ hlocks ⟨by decide, rfl⟩
set_option maxHeartbeats 4000000 in
set_option maxRecDepth 100000 in
theorem mX3_wouldFame_g (l : Launch) {E : En} {c : Cy} {ly : Ly} {L : List Nat} {ad : Nat → Nat → Nat} {H : Heap} (hX : PX E c ly L ad H) (h n : Nat) (hh : h < c.R 10 1) (hn : n ≤ 30) : RoI l yX3_wouldFame cX3_wouldFame 7 .int (rmk 4 0 0 85) [.ref (ad 0 0), .int (nI h), .int (nI n)] E H (wbfS c h n) := by
  obtain ⟨hP, hly, hLb, wf⟩ := id hX
  refine ro_of (by decide) (Nat.le_of_ble_eq_true rfl) ?_
  intro p e s m below meth co ls hx hb hr hml hown hlocks hnm hC hU hl
  have hS : va_S noA s.heap H [] := by rw [hU]; exact va_S.rf
  have hAb : ∀ q, noA q → bA E q := fun _ h => h.elim
  have hl : lv_has ls 7 [(0, .ref (ad 0 0)), (1, .int (nI h)), (2, .int (nI n))] := hl
  refine lv_aload_n hx hb dX3_wouldFame_0 rfl (lv_at hl 0 rfl) ?_
  refine lv_iload_n hx hb dX3_wouldFame_1 rfl (lv_at hl 1 rfl) ?_
  refine ro_VR (As := [.int (nI h)]) (h0 := ad 0 0) (rest := []) (v := some (ad 5 h)) hx hb hml hown hC hS hAb (mX3_handAt_g l hX h (by first | assumption | omega | (simp only [decide_eq_false_iff_not, decide_eq_true_eq] at *; omega))) kV_X3_92 ⟨rfl, rfl⟩ ⟨Nat.le_of_ble_eq_true rfl, Nat.le_of_ble_eq_true rfl⟩ (hP.recv hC cX_0 rfl) rfl hl (Nat.le_of_ble_eq_true rfl) ⟨Nat.zero_le _, Nat.zero_le _⟩ dX3_wouldFame_2 ?_
  have hg_1 : h < c.R 11 1 := by have := wf.sw; have := wf.sh'; have := wf.sl; omega
  refine lv_astore_n (lv' := [(3, .ref (ad 5 h)), (0, .ref (ad 0 0)), (1, .int (nI h)), (2, .int (nI n))]) hx hb dX3_wouldFame_5 rfl hl (by decide) rfl (fun ls hl => ?_)
  refine lv_iload_n hx hb dX3_wouldFame_6 rfl (lv_at hl 3 rfl) ?_
  refine lv_iconstN hx hb 0 dX3_wouldFame_7 (by decide) ?_
  refine lv_bipushN hx hb 30 dX3_wouldFame_8 (by decide) ?_
  refine ro_S (As := [.int (nI n), .int (nI 0), .int (nI 30)]) (rest := []) (v := bI (isInS (nI n) (nI 0) (nI 30))) hx hb hml hown hC hS hAb (mX3_isWithin l (nI n) (nI 0) (nI 30) ) kS_X3_32 ⟨rfl, rfl⟩ ⟨Nat.le_of_ble_eq_true rfl, Nat.le_of_ble_eq_true rfl⟩ rfl hl (Nat.le_of_ble_eq_true rfl) ⟨Nat.zero_le _, Nat.zero_le _⟩ dX3_wouldFame_10 ?_
  refine lv_bif_ne (tgt := 27) hx hb dX3_wouldFame_13 (by decide) (fun c_13 => ?_) (fun c_13 => ?_)
  · skip
    refine lv_iconstN hx hb 0 dX3_wouldFame_27 (by decide) ?_
    refine lv_istore (lv' := [(4, .int (nI 0)), (3, .ref (ad 5 h)), (0, .ref (ad 0 0)), (1, .int (nI h)), (2, .int (nI n))]) hx hb dX3_wouldFame_28 hl (by decide) rfl (fun ls hl => ?_)
    refine lv_iconstN hx hb 0 dX3_wouldFame_30 (by decide) ?_
    refine lv_istore (lv' := [(5, .int (nI 0)), (4, .int (nI 0)), (3, .ref (ad 5 h)), (0, .ref (ad 0 0)), (1, .int (nI h)), (2, .int (nI n))]) hx hb dX3_wouldFame_31 hl (by decide) rfl (fun ls hl => ?_)
    have lp33 : ∀ fu : Nat, ∀ (k : Nat) (a : Int32), k ≤ c.R 10 0 → a = smI (fun i => if wbcS c i n = true then nI 0 else wfS c i h) k → c.R 10 0 - k < fu → ∀ ls : Array Slot, lv_has ls 7 [(0, .ref (ad 0 0)), (2, .int (nI n)), (3, .ref (ad 5 h)), (4, .int a), (5, .int (nI k))] → W p l e (rmk 4 0 0 85) s m ([.ref (ad 0 0), .int (nI h), .int (nI n)] : List Value).toArray below meth co H [] 0 0 (MQ below (QiR (wbfS c h n) H) ([.ref (ad 0 0), .int (nI h), .int (nI n)] : List Value).toArray s 0 0 noA) (F0 m 33 ls []) := by
      intro fu
      induction fu with
      | zero => intro k a hk ha hfu; exact absurd hfu (Nat.not_lt_zero _)
      | succ fu ih33 =>
        intro k a hk ha hfu ls hl
        refine lv_iload hx hb dX3_wouldFame_33 (lv_at hl 4 rfl) ?_
        refine lv_aload_n hx hb dX3_wouldFame_35 rfl (lv_at hl 0 rfl) ?_
        refine pi_get hx hb hC hown hP fL_X3_10 0 0 cX_0 (v := .ref (ad 1 0)) rfl dX3_wouldFame_36 ?_
        refine ro_V (As := []) (h0 := ad 1 0) (rest := [.int (nI k)]) (v := nI (c.R 10 0)) hx hb hml hown hC hS hAb (mJ_size l hP 0 (cX_1 (by decide))) kV_X3_43 ⟨rfl, rfl⟩ ⟨Nat.le_of_ble_eq_true rfl, Nat.le_of_ble_eq_true rfl⟩ (hP.recv hC (cX_1 (i := 0) (by decide)) rfl) rfl hl (Nat.le_of_ble_eq_true rfl) ⟨Nat.zero_le _, Nat.zero_le _⟩ dX3_wouldFame_39 ?_
        have g_2 := wf.sw
        have g_3 := wf.nw
        refine lv_icmpN_ge (tgt := 86) hx hb dX3_wouldFame_42 (by decide) (by omega) (by omega) (fun c_42 => ?_) (fun c_42 => ?_)
        · skip
          refine lv_iload hx hb dX3_wouldFame_86 (lv_at hl 3 rfl) ?_
          exact ro_iret (x := a) hx hb hr hlocks hU (by first | (rw [ha, show k = c.R 10 0 by omega]; done) | (rw [ha, show k = c.R 10 0 by omega]; rfl)) dX3_wouldFame_88
        · skip
          refine lv_aload_n hx hb dX3_wouldFame_45 rfl (lv_at hl 0 rfl) ?_
          refine pi_get hx hb hC hown hP fL_X3_10 0 0 cX_0 (v := .ref (ad 1 0)) rfl dX3_wouldFame_46 ?_
          refine lv_iload hx hb dX3_wouldFame_49 (lv_at hl 4 rfl) ?_
          refine ro_VR (As := [.int (nI k)]) (h0 := ad 1 0) (rest := []) (v := some (ad 3 k)) hx hb hml hown hC hS hAb (mJ_get l hP 0 (cX_1 (by decide)) (fun h9 => cX_2 (by decide) h9) (hly 0 (by decide)) k (by first | assumption | omega | (simp only [decide_eq_false_iff_not, decide_eq_true_eq] at *; omega))) kV_X3_327 ⟨rfl, rfl⟩ ⟨Nat.le_of_ble_eq_true rfl, Nat.le_of_ble_eq_true rfl⟩ (hP.recv hC (cX_1 (i := 0) (by decide)) rfl) rfl hl (Nat.le_of_ble_eq_true rfl) ⟨Nat.zero_le _, Nat.zero_le _⟩ dX3_wouldFame_51 ?_
          have hg_4 : k < c.R 11 0 := by have := wf.sw; omega
          refine pi_cast (nm := "") hx hb hC hown hP 3 k (cX_3 hg_4) rfl wCl_X3_52 dX3_wouldFame_54 ?_
          refine lv_astore (lv' := [(6, .ref (ad 3 k)), (0, .ref (ad 0 0)), (2, .int (nI n)), (3, .ref (ad 5 h)), (4, .int a), (5, .int (nI k))]) hx hb dX3_wouldFame_57 hl (by decide) rfl (fun ls hl => ?_)
          refine lv_aload_n hx hb dX3_wouldFame_59 rfl (lv_at hl 1 rfl) ?_
          refine lv_aload hx hb dX3_wouldFame_60 (lv_at hl 0 rfl) ?_
          refine lv_iload_n hx hb dX3_wouldFame_62 rfl (lv_at hl 2 rfl) ?_
          refine ro_V (As := [.ref (ad 3 k), .int (nI n)]) (h0 := ad 0 0) (rest := []) (v := bI (wbcS c k n)) hx hb hml hown hC hS hAb (mX3_willBeCleaned l hX k n hg_4 (by first | assumption | omega | (simp only [decide_eq_false_iff_not, decide_eq_true_eq] at *; omega))) kV_X3_339 ⟨rfl, rfl⟩ ⟨Nat.le_of_ble_eq_true rfl, Nat.le_of_ble_eq_true rfl⟩ (hP.recv hC cX_0 rfl) rfl hl (Nat.le_of_ble_eq_true rfl) ⟨Nat.zero_le _, Nat.zero_le _⟩ dX3_wouldFame_63 ?_
          refine lv_bif_ne (tgt := 80) hx hb dX3_wouldFame_66 (by decide) (fun c_66 => ?_) (fun c_66 => ?_)
          · skip
            refine lv_iincN (v := 1) (lv' := [(5, .int (nI (k + 1))), (6, .ref (ad 3 k)), (0, .ref (ad 0 0)), (2, .int (nI n)), (3, .ref (ad 5 h)), (4, .int a)]) hx hb dX3_wouldFame_80 hl (k := 5) rfl (by decide) (by decide) rfl (fun ls hl => ?_)
            refine lv_goto (tgt := 33) hx hb dX3_wouldFame_83 (by decide) ?_
            exact ih33 (k + 1) a (by first | rfl | assumption | omega | (simp [c_13, ha, c_42, c_66]; done) | (simp_all [c_13, ha, c_42, c_66]; done)) (by rw [ha]; show _ = smI _ k + (if wbcS c k n = true then nI 0 else wfS c k h); first | (rw [if_pos c_66]; exact (Int32.add_zero _).symm) | rw [if_neg (by rw [c_66]; decide)]) (by omega) _ (lv_sub hl [2, 3, 4, 5, 0] rfl)
          · skip
            refine lv_iload hx hb dX3_wouldFame_69 (lv_at hl 4 rfl) ?_
            refine lv_aload hx hb dX3_wouldFame_71 (lv_at hl 0 rfl) ?_
            refine lv_aload_n hx hb dX3_wouldFame_73 rfl (lv_at hl 3 rfl) ?_
            refine ro_V (As := [.ref (ad 5 h)]) (h0 := ad 3 k) (rest := [.int a]) (v := wfS c k h) hx hb hml hown hC hS hAb (mX2_fameOf l hX k h hg_4 hg_1) kV_X3_342 ⟨rfl, rfl⟩ ⟨Nat.le_of_ble_eq_true rfl, Nat.le_of_ble_eq_true rfl⟩ (hP.recv hC (cX_3 hg_4) rfl) rfl hl (Nat.le_of_ble_eq_true rfl) ⟨Nat.zero_le _, Nat.zero_le _⟩ dX3_wouldFame_74 ?_
            refine lv_iadd hx hb dX3_wouldFame_77 ?_
            refine lv_istore (lv' := [(4, .int (a + (wfS c k h))), (6, .ref (ad 3 k)), (0, .ref (ad 0 0)), (2, .int (nI n)), (3, .ref (ad 5 h)), (5, .int (nI k))]) hx hb dX3_wouldFame_78 hl (by decide) rfl (fun ls hl => ?_)
            refine lv_iincN (v := 1) (lv' := [(5, .int (nI (k + 1))), (4, .int (a + (wfS c k h))), (6, .ref (ad 3 k)), (0, .ref (ad 0 0)), (2, .int (nI n)), (3, .ref (ad 5 h))]) hx hb dX3_wouldFame_80 hl (k := 5) rfl (by decide) (by decide) rfl (fun ls hl => ?_)
            refine lv_goto (tgt := 33) hx hb dX3_wouldFame_83 (by decide) ?_
            exact ih33 (k + 1) (a + (wfS c k h)) (by first | rfl | assumption | omega | (simp [c_13, ha, c_42, c_66]; done) | (simp_all [c_13, ha, c_42, c_66]; done)) (by rw [ha]; show _ = smI _ k + (if wbcS c k n = true then nI 0 else wfS c k h); first | (rw [if_pos c_66]; exact (Int32.add_zero _).symm) | rw [if_neg (by rw [c_66]; decide)]) (by omega) _ (lv_sub hl [3, 4, 5, 1, 0] rfl)
    exact lp33 (c.R 10 0 - 0 + 1) 0 (nI 0) (by first | rfl | assumption | omega | (simp [c_13]; done) | (simp_all [c_13]; done)) (rfl) (Nat.lt_succ_self _) _ (lv_sub hl [3, 5, 2, 1, 0] rfl)
  · skip
    exact absurd (c_13.symm.trans (isIn_le hn (by decide))) (by decide)
set_option maxHeartbeats 4000000 in
set_option maxRecDepth 100000 in
theorem mX3_wouldFame_b1 (l : Launch) (hst : l.stackTraces = false) {E : En} {c : Cy} {ly : Ly} {L : List Nat} {ad : Nat → Nat → Nat} {H : Heap} (hX : PX E c ly L ad H) (v n : Int32) (hv : isInS v (nI 0) (nI (c.R 10 1) - nI 1) = false) : ExI l yX3_wouldFame cX3_wouldFame 7 .int 7 111 [.ref (ad 0 0), .int v, .int n] E H 1 (fun _ => xIO) 0 := by
  obtain ⟨hP, hly, hLb, wf⟩ := id hX
  refine ex_of (by decide) (Nat.le_of_ble_eq_true rfl) ?_
  intro p e s m below meth co ls hx hb hr hml hown hlocks hout hC hU hl
  have hS : va_S noA s.heap H [] := by rw [hU]; exact va_S.rf
  have hAb : ∀ q, noA q → bA E q := fun _ h => h.elim
  have hl : lv_has ls 7 [(0, .ref (ad 0 0)), (1, .int v), (2, .int n)] := hl
  refine lv_aload_n hx hb dX3_wouldFame_0 rfl (lv_at hl 0 rfl) ?_
  refine lv_iload_n hx hb dX3_wouldFame_1 rfl (lv_at hl 1 rfl) ?_
  exact ex_VR (As := [.int v]) (h0 := ad 0 0) (rest := []) hx hb hml hown hlocks hout hC hU (mX3_handAt_b l hst hX v (by first | assumption | omega)) kV_X3_92 ⟨Nat.le_of_ble_eq_true rfl, Nat.le_of_ble_eq_true rfl⟩ (fun _ => ⟨by decide, rfl⟩) (hP.recv hC cX_0 rfl) rfl hl (Nat.le_of_ble_eq_true rfl) dX3_wouldFame_2 (fun h => absurd h (by decide))
set_option maxHeartbeats 4000000 in
set_option maxRecDepth 100000 in
theorem mX3_wouldFame_b2 (l : Launch) (hst : l.stackTraces = false) {E : En} {c : Cy} {ly : Ly} {L : List Nat} {ad : Nat → Nat → Nat} {H : Heap} (hX : PX E c ly L ad H) (h : Nat) (n : Int32) (hh : h < c.R 10 1) (hn : isInS n (nI 0) (nI 30) = false) : ExI l yX3_wouldFame cX3_wouldFame 7 .int 6 90 [.ref (ad 0 0), .int (nI h), .int n] E H 1 (fun _ => xIA) 0 := by
  obtain ⟨hP, hly, hLb, wf⟩ := id hX
  refine ex_of (by decide) (Nat.le_of_ble_eq_true rfl) ?_
  intro p e s m below meth co ls hx hb hr hml hown hlocks hout hC hU hl
  have hS : va_S noA s.heap H [] := by rw [hU]; exact va_S.rf
  have hAb : ∀ q, noA q → bA E q := fun _ h => h.elim
  have hl : lv_has ls 7 [(0, .ref (ad 0 0)), (1, .int (nI h)), (2, .int n)] := hl
  refine lv_aload_n hx hb dX3_wouldFame_0 rfl (lv_at hl 0 rfl) ?_
  refine lv_iload_n hx hb dX3_wouldFame_1 rfl (lv_at hl 1 rfl) ?_
  refine ro_VR (As := [.int (nI h)]) (h0 := ad 0 0) (rest := []) (v := some (ad 5 h)) hx hb hml hown hC hS hAb (mX3_handAt_g l hX h (by first | assumption | omega | (simp only [decide_eq_false_iff_not, decide_eq_true_eq] at *; omega))) kV_X3_92 ⟨rfl, rfl⟩ ⟨Nat.le_of_ble_eq_true rfl, Nat.le_of_ble_eq_true rfl⟩ (hP.recv hC cX_0 rfl) rfl hl (Nat.le_of_ble_eq_true rfl) ⟨Nat.zero_le _, Nat.zero_le _⟩ dX3_wouldFame_2 ?_
  have hg_1 : h < c.R 11 1 := by have := wf.sw; have := wf.sh'; have := wf.sl; omega
  refine lv_astore_n (lv' := [(3, .ref (ad 5 h)), (0, .ref (ad 0 0)), (1, .int (nI h)), (2, .int n)]) hx hb dX3_wouldFame_5 rfl hl (by decide) rfl (fun ls hl => ?_)
  refine lv_iload_n hx hb dX3_wouldFame_6 rfl (lv_at hl 3 rfl) ?_
  refine lv_iconstN hx hb 0 dX3_wouldFame_7 (by decide) ?_
  refine lv_bipushN hx hb 30 dX3_wouldFame_8 (by decide) ?_
  refine ro_S (As := [.int n, .int (nI 0), .int (nI 30)]) (rest := []) (v := bI (isInS n (nI 0) (nI 30))) hx hb hml hown hC hS hAb (mX3_isWithin l n (nI 0) (nI 30) ) kS_X3_32 ⟨rfl, rfl⟩ ⟨Nat.le_of_ble_eq_true rfl, Nat.le_of_ble_eq_true rfl⟩ rfl hl (Nat.le_of_ble_eq_true rfl) ⟨Nat.zero_le _, Nat.zero_le _⟩ dX3_wouldFame_10 ?_
  refine lv_bif_ne (tgt := 27) hx hb dX3_wouldFame_13 (by decide) (fun c_13 => ?_) (fun c_13 => ?_)
  · skip
    exact absurd (c_13.symm.trans hn) (by decide)
  · skip
    exact ex_throwR (j := 17) hx hb hst hC hU hown wCl_X3_36 tx_IA (by decide +kernel) rfl (hl.1.trans hml.symm) (Or.inr ⟨dX3_wouldFame_20, dX3_wouldFame_23, dX3_wouldFame_26⟩) dX3_wouldFame_16 dX3_wouldFame_19 hout ⟨Nat.le_of_ble_eq_true rfl, Nat.le_of_ble_eq_true rfl⟩ hlocks ⟨by decide, rfl⟩
