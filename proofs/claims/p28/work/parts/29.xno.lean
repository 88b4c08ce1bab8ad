/-! what the class refuses -/
def walOK (a b o v : Int32) : Bool := isInS a (nI 4) (nI 16) && isInS b (nI 1) (nI 9) && isInS o (nI 0) (nI 3) && (decide (v = 0) || isInS v (nI 2) (nI 20))
def hanOK (a b o v : Int32) : Bool := isInS a (nI 0) (nI 3) && isInS b (nI 1) (nI 9) && isInS o (nI 0) (nI 9) && isInS v (nI 0) (nI 9)
def paiOK (c : Cy) (i : Nat) (f u kd wb : Int32) : Bool := hasS c i f u && isInS kd (nI 0) (nI 3) && isInS wb (-2) (nI 2)
theorem mc_le {c : Cy} (wf : WF c) {h k : Nat} (hh : h < c.R 11 1) : mcS c h k ≤ 99 := by
  unfold mcS
  have h1 := tkN_le k
  have h2 := wf.sp hh
  have h3 := Nat.div_le_self (tkN k + c.R 4 h - 1) (c.R 4 h)
  omega
set_option maxHeartbeats 4000000 in
set_option maxRecDepth 100000 in
theorem mX3_permit_b1 (l : Launch) (hst : l.stackTraces = false) {E : En} {c : Cy} {ly : Ly} {L : List Nat} {ad : Nat → Nat → Nat} {H : Heap} (hX : PX E c ly L ad H) (v a b : Int32) (hv : isInS v (nI 0) (nI (c.R 10 0) - nI 1) = false) : ExI l yX3_permit cX3_permit 6 .int 7 111 [.ref (ad 0 0), .int v, .int a, .int b] E H 1 (fun _ => xIO) 0 := by
  obtain ⟨hP, hly, hLb, wf⟩ := id hX
  refine ex_of (by decide) (Nat.le_of_ble_eq_true rfl) ?_
  intro p e s m below meth co ls hx hb hr hml hown hlocks hout hC hU hl
  have hS : va_S noA s.heap H [] := by rw [hU]; exact va_S.rf
  have hAb : ∀ q, noA q → bA E q := fun _ h => h.elim
  have hl : lv_has ls 6 [(0, .ref (ad 0 0)), (1, .int v), (2, .int a), (3, .int b)] := hl
  refine lv_aload_n hx hb dX3_permit_0 rfl (lv_at hl 0 rfl) ?_
  refine lv_iload_n hx hb dX3_permit_1 rfl (lv_at hl 1 rfl) ?_
  exact ex_VR (As := [.int v]) (h0 := ad 0 0) (rest := []) hx hb hml hown hlocks hout hC hU (mX3_wallAt_b l hst hX v (by first | assumption | omega)) kV_X3_68 ⟨Nat.le_of_ble_eq_true rfl, Nat.le_of_ble_eq_true rfl⟩ (fun _ => ⟨by decide, rfl⟩) (hP.recv hC cX_0 rfl) rfl hl (Nat.le_of_ble_eq_true rfl) dX3_permit_2 (fun h => absurd h (by decide))
set_option maxHeartbeats 4000000 in
set_option maxRecDepth 100000 in
theorem mX3_permit_b2 (l : Launch) (hst : l.stackTraces = false) {E : En} {c : Cy} {ly : Ly} {L : List Nat} {ad : Nat → Nat → Nat} {H : Heap} (hX : PX E c ly L ad H) (i : Nat) (a b : Int32) (hi : i < c.R 10 0) (ha : (isInS a (nI 0) (nI 3) && isInS b (nI (c.R 0 0)) (nI 400)) = false) : ExI l yX3_permit cX3_permit 6 .int 6 90 [.ref (ad 0 0), .int (nI i), .int a, .int b] E H 1 (fun _ => xIA) 0 := by
  obtain ⟨hP, hly, hLb, wf⟩ := id hX
  refine ex_of (by decide) (Nat.le_of_ble_eq_true rfl) ?_
  intro p e s m below meth co ls hx hb hr hml hown hlocks hout hC hU hl
  have hS : va_S noA s.heap H [] := by rw [hU]; exact va_S.rf
  have hAb : ∀ q, noA q → bA E q := fun _ h => h.elim
  have hl : lv_has ls 6 [(0, .ref (ad 0 0)), (1, .int (nI i)), (2, .int a), (3, .int b)] := hl
  refine lv_aload_n hx hb dX3_permit_0 rfl (lv_at hl 0 rfl) ?_
  refine lv_iload_n hx hb dX3_permit_1 rfl (lv_at hl 1 rfl) ?_
  refine ro_VR (As := [.int (nI i)]) (h0 := ad 0 0) (rest := []) (v := some (ad 3 i)) hx hb hml hown hC hS hAb (mX3_wallAt_g l hX i (by first | assumption | omega | (simp only [decide_eq_false_iff_not, decide_eq_true_eq] at *; omega))) kV_X3_68 ⟨rfl, rfl⟩ ⟨Nat.le_of_ble_eq_true rfl, Nat.le_of_ble_eq_true rfl⟩ (hP.recv hC cX_0 rfl) rfl hl (Nat.le_of_ble_eq_true rfl) ⟨Nat.zero_le _, Nat.zero_le _⟩ dX3_permit_2 ?_
  have hg_1 : i < c.R 11 0 := by have := wf.sw; have := wf.sh'; have := wf.sl; omega
  refine lv_astore (lv' := [(4, .ref (ad 3 i)), (0, .ref (ad 0 0)), (1, .int (nI i)), (2, .int a), (3, .int b)]) hx hb dX3_permit_5 hl (by decide) rfl (fun ls hl => ?_)
  refine lv_iload_n hx hb dX3_permit_7 rfl (lv_at hl 3 rfl) ?_
  refine lv_iconstN hx hb 0 dX3_permit_8 (by decide) ?_
  refine lv_iconstN hx hb 3 dX3_permit_9 (by decide) ?_
  refine ro_S (As := [.int a, .int (nI 0), .int (nI 3)]) (rest := []) (v := bI (isInS a (nI 0) (nI 3))) hx hb hml hown hC hS hAb (mX3_isWithin l a (nI 0) (nI 3) ) kS_X3_32 ⟨rfl, rfl⟩ ⟨Nat.le_of_ble_eq_true rfl, Nat.le_of_ble_eq_true rfl⟩ rfl hl (Nat.le_of_ble_eq_true rfl) ⟨Nat.zero_le _, Nat.zero_le _⟩ dX3_permit_10 ?_
  refine lv_bif_eq (tgt := 30) hx hb dX3_permit_13 (by decide) (fun c_13 => ?_) (fun c_13 => ?_)
  · skip
    exact ex_throwR (j := 5) hx hb hst hC hU hown wCl_X3_36 tx_IA (by decide +kernel) rfl (hl.1.trans hml.symm) (Or.inl ⟨dX3_permit_34, dX3_permit_36, dX3_permit_39⟩) dX3_permit_30 dX3_permit_33 hout ⟨Nat.le_of_ble_eq_true rfl, Nat.le_of_ble_eq_true rfl⟩ hlocks ⟨by decide, rfl⟩
  · skip
    refine lv_iload_n hx hb dX3_permit_16 rfl (lv_at hl 4 rfl) ?_
    refine lv_aload_n hx hb dX3_permit_17 rfl (lv_at hl 1 rfl) ?_
    refine pi_get hx hb hC hown hP fL_X3_22 0 0 cX_0 (v := .int (nI (c.R 0 0))) rfl dX3_permit_18 ?_
    have g_2 := wf.nt
    refine lv_sipushN hx hb 400 dX3_permit_21 (by decide) ?_
    refine ro_S (As := [.int b, .int (nI (c.R 0 0)), .int (nI 400)]) (rest := []) (v := bI (isInS b (nI (c.R 0 0)) (nI 400))) hx hb hml hown hC hS hAb (mX3_isWithin l b (nI (c.R 0 0)) (nI 400) ) kS_X3_32 ⟨rfl, rfl⟩ ⟨Nat.le_of_ble_eq_true rfl, Nat.le_of_ble_eq_true rfl⟩ rfl hl (Nat.le_of_ble_eq_true rfl) ⟨Nat.zero_le _, Nat.zero_le _⟩ dX3_permit_24 ?_
    refine lv_bif_ne (tgt := 40) hx hb dX3_permit_27 (by decide) (fun c_27 => ?_) (fun c_27 => ?_)
    · skip
      exact absurd ha (by simp [c_13, c_27])
    · skip
      exact ex_throwR (j := 5) hx hb hst hC hU hown wCl_X3_36 tx_IA (by decide +kernel) rfl (hl.1.trans hml.symm) (Or.inl ⟨dX3_permit_34, dX3_permit_36, dX3_permit_39⟩) dX3_permit_30 dX3_permit_33 hout ⟨Nat.le_of_ble_eq_true rfl, Nat.le_of_ble_eq_true rfl⟩ hlocks ⟨by decide, rfl⟩
set_option maxHeartbeats 4000000 in
set_option maxRecDepth 100000 in
theorem mX3_watch_b1 (l : Launch) (hst : l.stackTraces = false) {E : En} {c : Cy} {ly : Ly} {L : List Nat} {ad : Nat → Nat → Nat} {H : Heap} (hX : PX E c ly L ad H) (v a b : Int32) (hv : isInS v (nI 0) (nI (c.R 10 0) - nI 1) = false) : ExI l yX3_watch cX3_watch 5 .int 7 111 [.ref (ad 0 0), .int v, .int a, .int b] E H 1 (fun _ => xIO) 0 := by
  obtain ⟨hP, hly, hLb, wf⟩ := id hX
  refine ex_of (by decide) (Nat.le_of_ble_eq_true rfl) ?_
  intro p e s m below meth co ls hx hb hr hml hown hlocks hout hC hU hl
  have hS : va_S noA s.heap H [] := by rw [hU]; exact va_S.rf
  have hAb : ∀ q, noA q → bA E q := fun _ h => h.elim
  have hl : lv_has ls 5 [(0, .ref (ad 0 0)), (1, .int v), (2, .int a), (3, .int b)] := hl
  refine lv_aload_n hx hb dX3_watch_0 rfl (lv_at hl 0 rfl) ?_
  refine lv_iload_n hx hb dX3_watch_1 rfl (lv_at hl 1 rfl) ?_
  exact ex_VR (As := [.int v]) (h0 := ad 0 0) (rest := []) hx hb hml hown hlocks hout hC hU (mX3_wallAt_b l hst hX v (by first | assumption | omega)) kV_X3_68 ⟨Nat.le_of_ble_eq_true rfl, Nat.le_of_ble_eq_true rfl⟩ (fun _ => ⟨by decide, rfl⟩) (hP.recv hC cX_0 rfl) rfl hl (Nat.le_of_ble_eq_true rfl) dX3_watch_2 (fun h => absurd h (by decide))
set_option maxHeartbeats 4000000 in
set_option maxRecDepth 100000 in
theorem mX3_watch_b2 (l : Launch) (hst : l.stackTraces = false) {E : En} {c : Cy} {ly : Ly} {L : List Nat} {ad : Nat → Nat → Nat} {H : Heap} (hX : PX E c ly L ad H) (i : Nat) (a b : Int32) (hi : i < c.R 10 0) (ha : (isInS a (nI 0) (nI 359) && isInS b a (nI 359)) = false) : ExI l yX3_watch cX3_watch 5 .int 6 90 [.ref (ad 0 0), .int (nI i), .int a, .int b] E H 1 (fun _ => xIA) 0 := by
  obtain ⟨hP, hly, hLb, wf⟩ := id hX
  refine ex_of (by decide) (Nat.le_of_ble_eq_true rfl) ?_
  intro p e s m below meth co ls hx hb hr hml hown hlocks hout hC hU hl
  have hS : va_S noA s.heap H [] := by rw [hU]; exact va_S.rf
  have hAb : ∀ q, noA q → bA E q := fun _ h => h.elim
  have hl : lv_has ls 5 [(0, .ref (ad 0 0)), (1, .int (nI i)), (2, .int a), (3, .int b)] := hl
  refine lv_aload_n hx hb dX3_watch_0 rfl (lv_at hl 0 rfl) ?_
  refine lv_iload_n hx hb dX3_watch_1 rfl (lv_at hl 1 rfl) ?_
  refine ro_VR (As := [.int (nI i)]) (h0 := ad 0 0) (rest := []) (v := some (ad 3 i)) hx hb hml hown hC hS hAb (mX3_wallAt_g l hX i (by first | assumption | omega | (simp only [decide_eq_false_iff_not, decide_eq_true_eq] at *; omega))) kV_X3_68 ⟨rfl, rfl⟩ ⟨Nat.le_of_ble_eq_true rfl, Nat.le_of_ble_eq_true rfl⟩ (hP.recv hC cX_0 rfl) rfl hl (Nat.le_of_ble_eq_true rfl) ⟨Nat.zero_le _, Nat.zero_le _⟩ dX3_watch_2 ?_
  have hg_1 : i < c.R 11 0 := by have := wf.sw; have := wf.sh'; have := wf.sl; omega
  refine lv_astore (lv' := [(4, .ref (ad 3 i)), (0, .ref (ad 0 0)), (1, .int (nI i)), (2, .int a), (3, .int b)]) hx hb dX3_watch_5 hl (by decide) rfl (fun ls hl => ?_)
  refine lv_iload_n hx hb dX3_watch_7 rfl (lv_at hl 3 rfl) ?_
  refine lv_iconstN hx hb 0 dX3_watch_8 (by decide) ?_
  refine lv_sipushN hx hb 359 dX3_watch_9 (by decide) ?_
  refine ro_S (As := [.int a, .int (nI 0), .int (nI 359)]) (rest := []) (v := bI (isInS a (nI 0) (nI 359))) hx hb hml hown hC hS hAb (mX3_isWithin l a (nI 0) (nI 359) ) kS_X3_32 ⟨rfl, rfl⟩ ⟨Nat.le_of_ble_eq_true rfl, Nat.le_of_ble_eq_true rfl⟩ rfl hl (Nat.le_of_ble_eq_true rfl) ⟨Nat.zero_le _, Nat.zero_le _⟩ dX3_watch_12 ?_
  refine lv_bif_eq (tgt := 29) hx hb dX3_watch_15 (by decide) (fun c_15 => ?_) (fun c_15 => ?_)
  · skip
    exact ex_throwR (j := 6) hx hb hst hC hU hown wCl_X3_36 tx_IA (by decide +kernel) rfl (hl.1.trans hml.symm) (Or.inl ⟨dX3_watch_33, dX3_watch_35, dX3_watch_38⟩) dX3_watch_29 dX3_watch_32 hout ⟨Nat.le_of_ble_eq_true rfl, Nat.le_of_ble_eq_true rfl⟩ hlocks ⟨by decide, rfl⟩
  · skip
    refine lv_iload_n hx hb dX3_watch_18 rfl (lv_at hl 4 rfl) ?_
    refine lv_iload_n hx hb dX3_watch_19 rfl (lv_at hl 3 rfl) ?_
    refine lv_sipushN hx hb 359 dX3_watch_20 (by decide) ?_
    refine ro_S (As := [.int b, .int a, .int (nI 359)]) (rest := []) (v := bI (isInS b a (nI 359))) hx hb hml hown hC hS hAb (mX3_isWithin l b a (nI 359) ) kS_X3_32 ⟨rfl, rfl⟩ ⟨Nat.le_of_ble_eq_true rfl, Nat.le_of_ble_eq_true rfl⟩ rfl hl (Nat.le_of_ble_eq_true rfl) ⟨Nat.zero_le _, Nat.zero_le _⟩ dX3_watch_23 ?_
    refine lv_bif_ne (tgt := 39) hx hb dX3_watch_26 (by decide) (fun c_26 => ?_) (fun c_26 => ?_)
    · skip
      exact absurd ha (by simp [c_15, c_26])
    · skip
      exact ex_throwR (j := 6) hx hb hst hC hU hown wCl_X3_36 tx_IA (by decide +kernel) rfl (hl.1.trans hml.symm) (Or.inl ⟨dX3_watch_33, dX3_watch_35, dX3_watch_38⟩) dX3_watch_29 dX3_watch_32 hout ⟨Nat.le_of_ble_eq_true rfl, Nat.le_of_ble_eq_true rfl⟩ hlocks ⟨by decide, rfl⟩
set_option maxHeartbeats 4000000 in
set_option maxRecDepth 100000 in
theorem mX3_pay_b1 (l : Launch) (hst : l.stackTraces = false) {E : En} {c : Cy} {ly : Ly} {L : List Nat} {ad : Nat → Nat → Nat} {H : Heap} (hX : PX E c ly L ad H) (v : Int32) (hv : isInS v (nI 0) (nI (c.R 10 1) - nI 1) = false) : ExI l yX3_pay cX3_pay 4 .int 7 111 [.ref (ad 0 0), .int v] E H 1 (fun _ => xIO) 0 := by
  obtain ⟨hP, hly, hLb, wf⟩ := id hX
  refine ex_of (by decide) (Nat.le_of_ble_eq_true rfl) ?_
  intro p e s m below meth co ls hx hb hr hml hown hlocks hout hC hU hl
  have hS : va_S noA s.heap H [] := by rw [hU]; exact va_S.rf
  have hAb : ∀ q, noA q → bA E q := fun _ h => h.elim
  have hl : lv_has ls 4 [(0, .ref (ad 0 0)), (1, .int v)] := hl
  refine lv_aload_n hx hb dX3_pay_0 rfl (lv_at hl 0 rfl) ?_
  refine lv_iload_n hx hb dX3_pay_1 rfl (lv_at hl 1 rfl) ?_
  exact ex_VR (As := [.int v]) (h0 := ad 0 0) (rest := []) hx hb hml hown hlocks hout hC hU (mX3_handAt_b l hst hX v (by first | assumption | omega)) kV_X3_92 ⟨Nat.le_of_ble_eq_true rfl, Nat.le_of_ble_eq_true rfl⟩ (fun _ => ⟨by decide, rfl⟩) (hP.recv hC cX_0 rfl) rfl hl (Nat.le_of_ble_eq_true rfl) dX3_pay_2 (fun h => absurd h (by decide))

set_option maxHeartbeats 4000000 in
set_option maxRecDepth 100000 in
theorem mX3_remember_b1 (l : Launch) (hst : l.stackTraces = false) {E : En} {c : Cy} {ly : Ly} {L : List Nat} {ad : Nat → Nat → Nat} {H : Heap} (hX : PX E c ly L ad H) (v : Int32) (hv : isInS v (nI 0) (nI (c.R 10 2) - nI 1) = false) : ExI l yX3_remember cX3_remember 4 .boolean 7 111 [.ref (ad 0 0), .int v] E H 1 (fun _ => xIO) 0 := by
  obtain ⟨hP, hly, hLb, wf⟩ := id hX
  refine ex_of (by decide) (Nat.le_of_ble_eq_true rfl) ?_
  intro p e s m below meth co ls hx hb hr hml hown hlocks hout hC hU hl
  have hS : va_S noA s.heap H [] := by rw [hU]; exact va_S.rf
  have hAb : ∀ q, noA q → bA E q := fun _ h => h.elim
  have hl : lv_has ls 4 [(0, .ref (ad 0 0)), (1, .int v)] := hl
  refine lv_aload_n hx hb dX3_remember_0 rfl (lv_at hl 0 rfl) ?_
  refine lv_iload_n hx hb dX3_remember_1 rfl (lv_at hl 1 rfl) ?_
  exact ex_VR (As := [.int v]) (h0 := ad 0 0) (rest := []) hx hb hml hown hlocks hout hC hU (mX3_layerAt_b l hst hX v (by first | assumption | omega)) kV_X3_182 ⟨Nat.le_of_ble_eq_true rfl, Nat.le_of_ble_eq_true rfl⟩ (fun _ => ⟨by decide, rfl⟩) (hP.recv hC cX_0 rfl) rfl hl (Nat.le_of_ble_eq_true rfl) dX3_remember_2 (fun h => absurd h (by decide))
set_option maxHeartbeats 4000000 in
set_option maxRecDepth 100000 in
theorem mX3_buff_b1 (l : Launch) (hst : l.stackTraces = false) {E : En} {c : Cy} {ly : Ly} {L : List Nat} {ad : Nat → Nat → Nat} {H : Heap} (hX : PX E c ly L ad H) (v : Int32) (hv : isInS v (nI 0) (nI (c.R 10 0) - nI 1) = false) : ExI l yX3_buff cX3_buff 5 .int 7 111 [.ref (ad 0 0), .int v] E H 1 (fun _ => xIO) 0 := by
  obtain ⟨hP, hly, hLb, wf⟩ := id hX
  refine ex_of (by decide) (Nat.le_of_ble_eq_true rfl) ?_
  intro p e s m below meth co ls hx hb hr hml hown hlocks hout hC hU hl
  have hS : va_S noA s.heap H [] := by rw [hU]; exact va_S.rf
  have hAb : ∀ q, noA q → bA E q := fun _ h => h.elim
  have hl : lv_has ls 5 [(0, .ref (ad 0 0)), (1, .int v)] := hl
  refine lv_aload_n hx hb dX3_buff_0 rfl (lv_at hl 0 rfl) ?_
  refine lv_iload_n hx hb dX3_buff_1 rfl (lv_at hl 1 rfl) ?_
  exact ex_VR (As := [.int v]) (h0 := ad 0 0) (rest := []) hx hb hml hown hlocks hout hC hU (mX3_wallAt_b l hst hX v (by first | assumption | omega)) kV_X3_68 ⟨Nat.le_of_ble_eq_true rfl, Nat.le_of_ble_eq_true rfl⟩ (fun _ => ⟨by decide, rfl⟩) (hP.recv hC cX_0 rfl) rfl hl (Nat.le_of_ble_eq_true rfl) dX3_buff_2 (fun h => absurd h (by decide))
set_option maxHeartbeats 4000000 in
set_option maxRecDepth 100000 in
theorem mX3_buff_b2 (l : Launch) (hst : l.stackTraces = false) {E : En} {c : Cy} {ly : Ly} {L : List Nat} {ad : Nat → Nat → Nat} {H : Heap} (hX : PX E c ly L ad H) (i : Nat) (hi : i < c.R 10 0) (hc : c.I 0 0 < nI (ctbS c i)) : ExI l yX3_buff cX3_buff 5 .int 6 90 [.ref (ad 0 0), .int (nI i)] E H 1 (fun _ => xIS) 0 := by
  obtain ⟨hP, hly, hLb, wf⟩ := id hX
  refine ex_of (by decide) (Nat.le_of_ble_eq_true rfl) ?_
  intro p e s m below meth co ls hx hb hr hml hown hlocks hout hC hU hl
  have hS : va_S noA s.heap H [] := by rw [hU]; exact va_S.rf
  have hAb : ∀ q, noA q → bA E q := fun _ h => h.elim
  have hl : lv_has ls 5 [(0, .ref (ad 0 0)), (1, .int (nI i))] := hl
  refine lv_aload_n hx hb dX3_buff_0 rfl (lv_at hl 0 rfl) ?_
  refine lv_iload_n hx hb dX3_buff_1 rfl (lv_at hl 1 rfl) ?_
  refine ro_VR (As := [.int (nI i)]) (h0 := ad 0 0) (rest := []) (v := some (ad 3 i)) hx hb hml hown hC hS hAb (mX3_wallAt_g l hX i (by first | assumption | omega | (simp only [decide_eq_false_iff_not, decide_eq_true_eq] at *; omega))) kV_X3_68 ⟨rfl, rfl⟩ ⟨Nat.le_of_ble_eq_true rfl, Nat.le_of_ble_eq_true rfl⟩ (hP.recv hC cX_0 rfl) rfl hl (Nat.le_of_ble_eq_true rfl) ⟨Nat.zero_le _, Nat.zero_le _⟩ dX3_buff_2 ?_
  have hg_1 : i < c.R 11 0 := by have := wf.sw; have := wf.sh'; have := wf.sl; omega
  refine lv_astore_n (lv' := [(2, .ref (ad 3 i)), (0, .ref (ad 0 0)), (1, .int (nI i))]) hx hb dX3_buff_5 rfl hl (by decide) rfl (fun ls hl => ?_)
  refine lv_aload_n hx hb dX3_buff_6 rfl (lv_at hl 1 rfl) ?_
  refine lv_aload_n hx hb dX3_buff_7 rfl (lv_at hl 0 rfl) ?_
  refine ro_V (As := [.ref (ad 3 i)]) (h0 := ad 0 0) (rest := []) (v := nI (ctbS c i)) hx hb hml hown hC hS hAb (mX3_cellsToBuff l hX i hg_1) kV_X3_148 ⟨rfl, rfl⟩ ⟨Nat.le_of_ble_eq_true rfl, Nat.le_of_ble_eq_true rfl⟩ (hP.recv hC cX_0 rfl) rfl hl (Nat.le_of_ble_eq_true rfl) ⟨Nat.zero_le _, Nat.zero_le _⟩ dX3_buff_8 ?_
  refine lv_istore_n (lv' := [(3, .int (nI (ctbS c i))), (2, .ref (ad 3 i)), (0, .ref (ad 0 0)), (1, .int (nI i))]) hx hb dX3_buff_11 rfl hl (by decide) rfl (fun ls hl => ?_)
  refine lv_iload_n hx hb dX3_buff_12 rfl (lv_at hl 0 rfl) ?_
  refine lv_aload_n hx hb dX3_buff_13 rfl (lv_at hl 2 rfl) ?_
  refine pi_get hx hb hC hown hP fL_X3_26 0 0 cX_0 (v := .int (c.I 0 0)) rfl dX3_buff_14 ?_
  refine lv_icmp_le (tgt := 30) hx hb dX3_buff_17 (by decide) (fun c_17 => ?_) (fun c_17 => ?_)
  · skip
    have c_17 := Int32.not_lt.mpr c_17
    exact absurd hc c_17
  · skip
    have c_17 := Int32.not_le.mp c_17
    exact ex_throwR (j := 19) hx hb hst hC hU hown wCl_X3_47 tx_IS (by decide +kernel) rfl (hl.1.trans hml.symm) (Or.inl ⟨dX3_buff_24, dX3_buff_26, dX3_buff_29⟩) dX3_buff_20 dX3_buff_23 hout ⟨Nat.le_of_ble_eq_true rfl, Nat.le_of_ble_eq_true rfl⟩ hlocks ⟨by decide, rfl⟩
set_option maxHeartbeats 4000000 in
set_option maxRecDepth 100000 in
theorem mX3_sell_b1 (l : Launch) (hst : l.stackTraces = false) {E : En} {c : Cy} {ly : Ly} {L : List Nat} {ad : Nat → Nat → Nat} {H : Heap} (hX : PX E c ly L ad H) (v : Int32) (hv : isInS v (nI 0) (nI (c.R 10 2) - nI 1) = false) : ExI l yX3_sell cX3_sell 4 .int 7 111 [.ref (ad 0 0), .int v] E H 1 (fun _ => xIO) 0 := by
  obtain ⟨hP, hly, hLb, wf⟩ := id hX
  refine ex_of (by decide) (Nat.le_of_ble_eq_true rfl) ?_
  intro p e s m below meth co ls hx hb hr hml hown hlocks hout hC hU hl
  have hS : va_S noA s.heap H [] := by rw [hU]; exact va_S.rf
  have hAb : ∀ q, noA q → bA E q := fun _ h => h.elim
  have hl : lv_has ls 4 [(0, .ref (ad 0 0)), (1, .int v)] := hl
  refine lv_aload_n hx hb dX3_sell_0 rfl (lv_at hl 0 rfl) ?_
  refine lv_iload_n hx hb dX3_sell_1 rfl (lv_at hl 1 rfl) ?_
  exact ex_VR (As := [.int v]) (h0 := ad 0 0) (rest := []) hx hb hml hown hlocks hout hC hU (mX3_layerAt_b l hst hX v (by first | assumption | omega)) kV_X3_182 ⟨Nat.le_of_ble_eq_true rfl, Nat.le_of_ble_eq_true rfl⟩ (fun _ => ⟨by decide, rfl⟩) (hP.recv hC cX_0 rfl) rfl hl (Nat.le_of_ble_eq_true rfl) dX3_sell_2 (fun h => absurd h (by decide))
set_option maxHeartbeats 4000000 in
set_option maxRecDepth 100000 in
theorem mX3_sell_b2 (l : Launch) (hst : l.stackTraces = false) {E : En} {c : Cy} {ly : Ly} {L : List Nat} {ad : Nat → Nat → Nat} {H : Heap} (hX : PX E c ly L ad H) (j : Nat) (hj : j < c.R 10 2) (hs : decide (0 < seenS c j) = false) : ExI l yX3_sell cX3_sell 4 .int 6 90 [.ref (ad 0 0), .int (nI j)] E H 1 (fun _ => xIS) 0 := by
  obtain ⟨hP, hly, hLb, wf⟩ := id hX
  refine ex_of (by decide) (Nat.le_of_ble_eq_true rfl) ?_
  intro p e s m below meth co ls hx hb hr hml hown hlocks hout hC hU hl
  have hS : va_S noA s.heap H [] := by rw [hU]; exact va_S.rf
  have hAb : ∀ q, noA q → bA E q := fun _ h => h.elim
  have hl : lv_has ls 4 [(0, .ref (ad 0 0)), (1, .int (nI j))] := hl
  refine lv_aload_n hx hb dX3_sell_0 rfl (lv_at hl 0 rfl) ?_
  refine lv_iload_n hx hb dX3_sell_1 rfl (lv_at hl 1 rfl) ?_
  refine ro_VR (As := [.int (nI j)]) (h0 := ad 0 0) (rest := []) (v := some (ad 7 j)) hx hb hml hown hC hS hAb (mX3_layerAt_g l hX j (by first | assumption | omega | (simp only [decide_eq_false_iff_not, decide_eq_true_eq] at *; omega))) kV_X3_182 ⟨rfl, rfl⟩ ⟨Nat.le_of_ble_eq_true rfl, Nat.le_of_ble_eq_true rfl⟩ (hP.recv hC cX_0 rfl) rfl hl (Nat.le_of_ble_eq_true rfl) ⟨Nat.zero_le _, Nat.zero_le _⟩ dX3_sell_2 ?_
  have hg_1 : j < c.R 11 2 := by have := wf.sw; have := wf.sh'; have := wf.sl; omega
  refine lv_astore_n (lv' := [(2, .ref (ad 7 j)), (0, .ref (ad 0 0)), (1, .int (nI j))]) hx hb dX3_sell_5 rfl hl (by decide) rfl (fun ls hl => ?_)
  refine lv_aload_n hx hb dX3_sell_6 rfl (lv_at hl 0 rfl) ?_
  refine ro_V (As := []) (h0 := ad 7 j) (rest := []) (v := bI (decide (0 < seenS c j))) hx hb hml hown hC hS hAb (mX1_isSeen l hX j hg_1) kV_X3_186 ⟨rfl, rfl⟩ ⟨Nat.le_of_ble_eq_true rfl, Nat.le_of_ble_eq_true rfl⟩ (hP.recv hC (cX_7 hg_1) rfl) rfl hl (Nat.le_of_ble_eq_true rfl) ⟨Nat.zero_le _, Nat.zero_le _⟩ dX3_sell_7 ?_
  refine lv_bif_ne (tgt := 23) hx hb dX3_sell_10 (by decide) (fun c_10 => ?_) (fun c_10 => ?_)
  · skip
    exact absurd (c_10.symm.trans hs) (by decide)
  · skip
    exact ex_throwR (j := 8) hx hb hst hC hU hown wCl_X3_47 tx_IS (by decide +kernel) rfl (hl.1.trans hml.symm) (Or.inl ⟨dX3_sell_17, dX3_sell_19, dX3_sell_22⟩) dX3_sell_13 dX3_sell_16 hout ⟨Nat.le_of_ble_eq_true rfl, Nat.le_of_ble_eq_true rfl⟩ hlocks ⟨by decide, rfl⟩
set_option maxHeartbeats 4000000 in
set_option maxRecDepth 100000 in
theorem mX3_clear_b1 (l : Launch) (hst : l.stackTraces = false) {E : En} {c : Cy} {ly : Ly} {L : List Nat} {ad : Nat → Nat → Nat} {H : Heap} (hX : PX E c ly L ad H) (v : Int32) (hv : isInS v (nI 0) (nI (c.R 10 0) - nI 1) = false) : ExI l yX3_clear cX3_clear 7 .int 7 111 [.ref (ad 0 0), .int v] E H 1 (fun _ => xIO) 0 := by
  obtain ⟨hP, hly, hLb, wf⟩ := id hX
  refine ex_of (by decide) (Nat.le_of_ble_eq_true rfl) ?_
  intro p e s m below meth co ls hx hb hr hml hown hlocks hout hC hU hl
  have hS : va_S noA s.heap H [] := by rw [hU]; exact va_S.rf
  have hAb : ∀ q, noA q → bA E q := fun _ h => h.elim
  have hl : lv_has ls 7 [(0, .ref (ad 0 0)), (1, .int v)] := hl
  refine lv_aload_n hx hb dX3_clear_0 rfl (lv_at hl 0 rfl) ?_
  refine lv_iload_n hx hb dX3_clear_1 rfl (lv_at hl 1 rfl) ?_
  exact ex_VR (As := [.int v]) (h0 := ad 0 0) (rest := []) hx hb hml hown hlocks hout hC hU (mX3_wallAt_b l hst hX v (by first | assumption | omega)) kV_X3_68 ⟨Nat.le_of_ble_eq_true rfl, Nat.le_of_ble_eq_true rfl⟩ (fun _ => ⟨by decide, rfl⟩) (hP.recv hC cX_0 rfl) rfl hl (Nat.le_of_ble_eq_true rfl) dX3_clear_2 (fun h => absurd h (by decide))
set_option maxHeartbeats 4000000 in
set_option maxRecDepth 100000 in
theorem mX3_pass_b1 (l : Launch) (hst : l.stackTraces = false) {E : En} {c : Cy} {ly : Ly} {L : List Nat} {ad : Nat → Nat → Nat} {H : Heap} (hX : PX E c ly L ad H) (v : Int32) (hv : isInS v (nI 1) (nI 30) = false) : ExI l yX3_pass cX3_pass 4 .int 6 90 [.ref (ad 0 0), .int v] E H 1 (fun _ => xIA) 0 := by
  obtain ⟨hP, hly, hLb, wf⟩ := id hX
  refine ex_of (by decide) (Nat.le_of_ble_eq_true rfl) ?_
  intro p e s m below meth co ls hx hb hr hml hown hlocks hout hC hU hl
  have hS : va_S noA s.heap H [] := by rw [hU]; exact va_S.rf
  have hAb : ∀ q, noA q → bA E q := fun _ h => h.elim
  have hl : lv_has ls 4 [(0, .ref (ad 0 0)), (1, .int v)] := hl
  refine lv_iload_n hx hb dX3_pass_0 rfl (lv_at hl 1 rfl) ?_
  refine lv_iconstN hx hb 1 dX3_pass_1 (by decide) ?_
  refine lv_bipushN hx hb 30 dX3_pass_2 (by decide) ?_
  refine ro_S (As := [.int v, .int (nI 1), .int (nI 30)]) (rest := []) (v := bI (isInS v (nI 1) (nI 30))) hx hb hml hown hC hS hAb (mX3_isWithin l v (nI 1) (nI 30) ) kS_X3_32 ⟨rfl, rfl⟩ ⟨Nat.le_of_ble_eq_true rfl, Nat.le_of_ble_eq_true rfl⟩ rfl hl (Nat.le_of_ble_eq_true rfl) ⟨Nat.zero_le _, Nat.zero_le _⟩ dX3_pass_4 ?_
  refine lv_bif_ne (tgt := 20) hx hb dX3_pass_7 (by decide) (fun c_7 => ?_) (fun c_7 => ?_)
  · skip
    exact absurd (c_7.symm.trans hv) (by decide)
  · skip
    exact ex_throwR (j := 10) hx hb hst hC hU hown wCl_X3_36 tx_IA (by decide +kernel) rfl (hl.1.trans hml.symm) (Or.inl ⟨dX3_pass_14, dX3_pass_16, dX3_pass_19⟩) dX3_pass_10 dX3_pass_13 hout ⟨Nat.le_of_ble_eq_true rfl, Nat.le_of_ble_eq_true rfl⟩ hlocks ⟨by decide, rfl⟩
set_option maxHeartbeats 4000000 in
set_option maxRecDepth 100000 in
theorem mX3_pass_b2 (l : Launch) (hst : l.stackTraces = false) {E : En} {c : Cy} {ly : Ly} {L : List Nat} {ad : Nat → Nat → Nat} {H : Heap} (hX : PX E c ly L ad H) (n : Nat) (hn : 1 ≤ n) (hn2 : n ≤ 30) (ht : 400 < c.R 0 0 + n) : ExI l yX3_pass cX3_pass 4 .int 6 90 [.ref (ad 0 0), .int (nI n)] E H 1 (fun _ => xIS) 0 := by
  obtain ⟨hP, hly, hLb, wf⟩ := id hX
  refine ex_of (by decide) (Nat.le_of_ble_eq_true rfl) ?_
  intro p e s m below meth co ls hx hb hr hml hown hlocks hout hC hU hl
  have hS : va_S noA s.heap H [] := by rw [hU]; exact va_S.rf
  have hAb : ∀ q, noA q → bA E q := fun _ h => h.elim
  have hl : lv_has ls 4 [(0, .ref (ad 0 0)), (1, .int (nI n))] := hl
  refine lv_iload_n hx hb dX3_pass_0 rfl (lv_at hl 1 rfl) ?_
  refine lv_iconstN hx hb 1 dX3_pass_1 (by decide) ?_
  refine lv_bipushN hx hb 30 dX3_pass_2 (by decide) ?_
  refine ro_S (As := [.int (nI n), .int (nI 1), .int (nI 30)]) (rest := []) (v := bI (isInS (nI n) (nI 1) (nI 30))) hx hb hml hown hC hS hAb (mX3_isWithin l (nI n) (nI 1) (nI 30) ) kS_X3_32 ⟨rfl, rfl⟩ ⟨Nat.le_of_ble_eq_true rfl, Nat.le_of_ble_eq_true rfl⟩ rfl hl (Nat.le_of_ble_eq_true rfl) ⟨Nat.zero_le _, Nat.zero_le _⟩ dX3_pass_4 ?_
  refine lv_bif_ne (tgt := 20) hx hb dX3_pass_7 (by decide) (fun c_7 => ?_) (fun c_7 => ?_)
  · skip
    refine lv_aload_n hx hb dX3_pass_20 rfl (lv_at hl 0 rfl) ?_
    refine pi_get hx hb hC hown hP fL_X3_22 0 0 cX_0 (v := .int (nI (c.R 0 0))) rfl dX3_pass_21 ?_
    have g_1 := wf.nt
    refine lv_iload_n hx hb dX3_pass_24 rfl (lv_at hl 1 rfl) ?_
    refine lv_iaddN hx hb dX3_pass_25 ?_
    refine lv_sipushN hx hb 400 dX3_pass_26 (by decide) ?_
    refine lv_icmpN_le (tgt := 42) hx hb dX3_pass_29 (by decide) (by omega) (by omega) (fun c_29 => ?_) (fun c_29 => ?_)
    · skip
      exact absurd ht (by omega)
    · skip
      exact ex_throwR (j := 11) hx hb hst hC hU hown wCl_X3_47 tx_IS (by decide +kernel) rfl (hl.1.trans hml.symm) (Or.inl ⟨dX3_pass_36, dX3_pass_38, dX3_pass_41⟩) dX3_pass_32 dX3_pass_35 hout ⟨Nat.le_of_ble_eq_true rfl, Nat.le_of_ble_eq_true rfl⟩ hlocks ⟨by decide, rfl⟩
  · skip
    exact absurd (c_7.symm.trans (isIn_1 hn hn2 (by decide))) (by decide)
set_option maxHeartbeats 4000000 in
set_option maxRecDepth 100000 in
theorem mX3_wall_b1 (l : Launch) (hst : l.stackTraces = false) {E : En} {c : Cy} {ly : Ly} {L : List Nat} {ad : Nat → Nat → Nat} {H : Heap} (hX : PX E c ly L ad H) (a b o v : Int32) (ha : walOK a b o v = false) : ExI l yX3_wall cX3_wall 7 .int 6 90 [.ref (ad 0 0), .int a, .int b, .int o, .int v] E H 1 (fun _ => xIA) 0 := by
  obtain ⟨hP, hly, hLb, wf⟩ := id hX
  refine ex_of (by decide) (Nat.le_of_ble_eq_true rfl) ?_
  intro p e s m below meth co ls hx hb hr hml hown hlocks hout hC hU hl
  have hS : va_S noA s.heap H [] := by rw [hU]; exact va_S.rf
  have hAb : ∀ q, noA q → bA E q := fun _ h => h.elim
  have hl : lv_has ls 7 [(0, .ref (ad 0 0)), (1, .int a), (2, .int b), (3, .int o), (4, .int v)] := hl
  refine lv_iload hx hb dX3_wall_0 (lv_at hl 4 rfl) ?_
  refine lv_if_eq (tgt := 16) hx hb dX3_wall_2 (by decide) (fun c_2 => ?_) (fun c_2 => ?_)
  · skip
    refine lv_iconstN hx hb 1 dX3_wall_16 (by decide) ?_
    refine lv_goto (tgt := 21) hx hb dX3_wall_17 (by decide) ?_
    refine lv_istore (lv' := [(5, .int (nI 1)), (0, .ref (ad 0 0)), (1, .int a), (2, .int b), (3, .int o), (4, .int v)]) hx hb dX3_wall_21 hl (by decide) rfl (fun ls hl => ?_)
    refine lv_iload_n hx hb dX3_wall_23 rfl (lv_at hl 2 rfl) ?_
    refine lv_iconstN hx hb 4 dX3_wall_24 (by decide) ?_
    refine lv_bipushN hx hb 16 dX3_wall_25 (by decide) ?_
    refine ro_S (As := [.int a, .int (nI 4), .int (nI 16)]) (rest := []) (v := bI (isInS a (nI 4) (nI 16))) hx hb hml hown hC hS hAb (mX3_isWithin l a (nI 4) (nI 16) ) kS_X3_32 ⟨rfl, rfl⟩ ⟨Nat.le_of_ble_eq_true rfl, Nat.le_of_ble_eq_true rfl⟩ rfl hl (Nat.le_of_ble_eq_true rfl) ⟨Nat.zero_le _, Nat.zero_le _⟩ dX3_wall_27 ?_
    refine lv_bif_eq (tgt := 57) hx hb dX3_wall_30 (by decide) (fun c_30 => ?_) (fun c_30 => ?_)
    · skip
      exact ex_throwR (j := 0) hx hb hst hC hU hown wCl_X3_36 tx_IA (by decide +kernel) rfl (hl.1.trans hml.symm) (Or.inl ⟨dX3_wall_61, dX3_wall_63, dX3_wall_66⟩) dX3_wall_57 dX3_wall_60 hout ⟨Nat.le_of_ble_eq_true rfl, Nat.le_of_ble_eq_true rfl⟩ hlocks ⟨by decide, rfl⟩
    · skip
      refine lv_iload_n hx hb dX3_wall_33 rfl (lv_at hl 3 rfl) ?_
      refine lv_iconstN hx hb 1 dX3_wall_34 (by decide) ?_
      refine lv_bipushN hx hb 9 dX3_wall_35 (by decide) ?_
      refine ro_S (As := [.int b, .int (nI 1), .int (nI 9)]) (rest := []) (v := bI (isInS b (nI 1) (nI 9))) hx hb hml hown hC hS hAb (mX3_isWithin l b (nI 1) (nI 9) ) kS_X3_32 ⟨rfl, rfl⟩ ⟨Nat.le_of_ble_eq_true rfl, Nat.le_of_ble_eq_true rfl⟩ rfl hl (Nat.le_of_ble_eq_true rfl) ⟨Nat.zero_le _, Nat.zero_le _⟩ dX3_wall_37 ?_
      refine lv_bif_eq (tgt := 57) hx hb dX3_wall_40 (by decide) (fun c_40 => ?_) (fun c_40 => ?_)
      · skip
        exact ex_throwR (j := 0) hx hb hst hC hU hown wCl_X3_36 tx_IA (by decide +kernel) rfl (hl.1.trans hml.symm) (Or.inl ⟨dX3_wall_61, dX3_wall_63, dX3_wall_66⟩) dX3_wall_57 dX3_wall_60 hout ⟨Nat.le_of_ble_eq_true rfl, Nat.le_of_ble_eq_true rfl⟩ hlocks ⟨by decide, rfl⟩
      · skip
        refine lv_iload_n hx hb dX3_wall_43 rfl (lv_at hl 4 rfl) ?_
        refine lv_iconstN hx hb 0 dX3_wall_44 (by decide) ?_
        refine lv_iconstN hx hb 3 dX3_wall_45 (by decide) ?_
        refine ro_S (As := [.int o, .int (nI 0), .int (nI 3)]) (rest := []) (v := bI (isInS o (nI 0) (nI 3))) hx hb hml hown hC hS hAb (mX3_isWithin l o (nI 0) (nI 3) ) kS_X3_32 ⟨rfl, rfl⟩ ⟨Nat.le_of_ble_eq_true rfl, Nat.le_of_ble_eq_true rfl⟩ rfl hl (Nat.le_of_ble_eq_true rfl) ⟨Nat.zero_le _, Nat.zero_le _⟩ dX3_wall_46 ?_
        refine lv_bif_eq (tgt := 57) hx hb dX3_wall_49 (by decide) (fun c_49 => ?_) (fun c_49 => ?_)
        · skip
          exact ex_throwR (j := 0) hx hb hst hC hU hown wCl_X3_36 tx_IA (by decide +kernel) rfl (hl.1.trans hml.symm) (Or.inl ⟨dX3_wall_61, dX3_wall_63, dX3_wall_66⟩) dX3_wall_57 dX3_wall_60 hout ⟨Nat.le_of_ble_eq_true rfl, Nat.le_of_ble_eq_true rfl⟩ hlocks ⟨by decide, rfl⟩
        · skip
          refine lv_iload hx hb dX3_wall_52 (lv_at hl 0 rfl) ?_
          refine lv_ifN_ne (tgt := 67) hx hb dX3_wall_54 (by decide) (by omega) (fun c_54 => ?_) (fun c_54 => ?_)
          · skip
            exact absurd ha (by simp [walOK, c_2, c_30, c_40, c_49])
          · skip
            exact absurd c_54 (by decide)
  · skip
    refine lv_iload hx hb dX3_wall_5 (lv_at hl 4 rfl) ?_
    refine lv_iconstN hx hb 2 dX3_wall_7 (by decide) ?_
    refine lv_bipushN hx hb 20 dX3_wall_8 (by decide) ?_
    refine ro_S (As := [.int v, .int (nI 2), .int (nI 20)]) (rest := []) (v := bI (isInS v (nI 2) (nI 20))) hx hb hml hown hC hS hAb (mX3_isWithin l v (nI 2) (nI 20) ) kS_X3_32 ⟨rfl, rfl⟩ ⟨Nat.le_of_ble_eq_true rfl, Nat.le_of_ble_eq_true rfl⟩ rfl hl (Nat.le_of_ble_eq_true rfl) ⟨Nat.zero_le _, Nat.zero_le _⟩ dX3_wall_10 ?_
    refine lv_bif_eq (tgt := 20) hx hb dX3_wall_13 (by decide) (fun c_13 => ?_) (fun c_13 => ?_)
    · skip
      refine lv_iconstN hx hb 0 dX3_wall_20 (by decide) ?_
      refine lv_istore (lv' := [(5, .int (nI 0)), (0, .ref (ad 0 0)), (1, .int a), (2, .int b), (3, .int o), (4, .int v)]) hx hb dX3_wall_21 hl (by decide) rfl (fun ls hl => ?_)
      refine lv_iload_n hx hb dX3_wall_23 rfl (lv_at hl 2 rfl) ?_
      refine lv_iconstN hx hb 4 dX3_wall_24 (by decide) ?_
      refine lv_bipushN hx hb 16 dX3_wall_25 (by decide) ?_
      refine ro_S (As := [.int a, .int (nI 4), .int (nI 16)]) (rest := []) (v := bI (isInS a (nI 4) (nI 16))) hx hb hml hown hC hS hAb (mX3_isWithin l a (nI 4) (nI 16) ) kS_X3_32 ⟨rfl, rfl⟩ ⟨Nat.le_of_ble_eq_true rfl, Nat.le_of_ble_eq_true rfl⟩ rfl hl (Nat.le_of_ble_eq_true rfl) ⟨Nat.zero_le _, Nat.zero_le _⟩ dX3_wall_27 ?_
      refine lv_bif_eq (tgt := 57) hx hb dX3_wall_30 (by decide) (fun c_30 => ?_) (fun c_30 => ?_)
      · skip
        exact ex_throwR (j := 0) hx hb hst hC hU hown wCl_X3_36 tx_IA (by decide +kernel) rfl (hl.1.trans hml.symm) (Or.inl ⟨dX3_wall_61, dX3_wall_63, dX3_wall_66⟩) dX3_wall_57 dX3_wall_60 hout ⟨Nat.le_of_ble_eq_true rfl, Nat.le_of_ble_eq_true rfl⟩ hlocks ⟨by decide, rfl⟩
      · skip
        refine lv_iload_n hx hb dX3_wall_33 rfl (lv_at hl 3 rfl) ?_
        refine lv_iconstN hx hb 1 dX3_wall_34 (by decide) ?_
        refine lv_bipushN hx hb 9 dX3_wall_35 (by decide) ?_
        refine ro_S (As := [.int b, .int (nI 1), .int (nI 9)]) (rest := []) (v := bI (isInS b (nI 1) (nI 9))) hx hb hml hown hC hS hAb (mX3_isWithin l b (nI 1) (nI 9) ) kS_X3_32 ⟨rfl, rfl⟩ ⟨Nat.le_of_ble_eq_true rfl, Nat.le_of_ble_eq_true rfl⟩ rfl hl (Nat.le_of_ble_eq_true rfl) ⟨Nat.zero_le _, Nat.zero_le _⟩ dX3_wall_37 ?_
        refine lv_bif_eq (tgt := 57) hx hb dX3_wall_40 (by decide) (fun c_40 => ?_) (fun c_40 => ?_)
        · skip
          exact ex_throwR (j := 0) hx hb hst hC hU hown wCl_X3_36 tx_IA (by decide +kernel) rfl (hl.1.trans hml.symm) (Or.inl ⟨dX3_wall_61, dX3_wall_63, dX3_wall_66⟩) dX3_wall_57 dX3_wall_60 hout ⟨Nat.le_of_ble_eq_true rfl, Nat.le_of_ble_eq_true rfl⟩ hlocks ⟨by decide, rfl⟩
        · skip
          refine lv_iload_n hx hb dX3_wall_43 rfl (lv_at hl 4 rfl) ?_
          refine lv_iconstN hx hb 0 dX3_wall_44 (by decide) ?_
          refine lv_iconstN hx hb 3 dX3_wall_45 (by decide) ?_
          refine ro_S (As := [.int o, .int (nI 0), .int (nI 3)]) (rest := []) (v := bI (isInS o (nI 0) (nI 3))) hx hb hml hown hC hS hAb (mX3_isWithin l o (nI 0) (nI 3) ) kS_X3_32 ⟨rfl, rfl⟩ ⟨Nat.le_of_ble_eq_true rfl, Nat.le_of_ble_eq_true rfl⟩ rfl hl (Nat.le_of_ble_eq_true rfl) ⟨Nat.zero_le _, Nat.zero_le _⟩ dX3_wall_46 ?_
          refine lv_bif_eq (tgt := 57) hx hb dX3_wall_49 (by decide) (fun c_49 => ?_) (fun c_49 => ?_)
          · skip
            exact ex_throwR (j := 0) hx hb hst hC hU hown wCl_X3_36 tx_IA (by decide +kernel) rfl (hl.1.trans hml.symm) (Or.inl ⟨dX3_wall_61, dX3_wall_63, dX3_wall_66⟩) dX3_wall_57 dX3_wall_60 hout ⟨Nat.le_of_ble_eq_true rfl, Nat.le_of_ble_eq_true rfl⟩ hlocks ⟨by decide, rfl⟩
          · skip
            refine lv_iload hx hb dX3_wall_52 (lv_at hl 0 rfl) ?_
            refine lv_ifN_ne (tgt := 67) hx hb dX3_wall_54 (by decide) (by omega) (fun c_54 => ?_) (fun c_54 => ?_)
            · skip
              exact absurd c_54 (by decide)
            · skip
              exact ex_throwR (j := 0) hx hb hst hC hU hown wCl_X3_36 tx_IA (by decide +kernel) rfl (hl.1.trans hml.symm) (Or.inl ⟨dX3_wall_61, dX3_wall_63, dX3_wall_66⟩) dX3_wall_57 dX3_wall_60 hout ⟨Nat.le_of_ble_eq_true rfl, Nat.le_of_ble_eq_true rfl⟩ hlocks ⟨by decide, rfl⟩
    · skip
      refine lv_iconstN hx hb 1 dX3_wall_16 (by decide) ?_
      refine lv_goto (tgt := 21) hx hb dX3_wall_17 (by decide) ?_
      refine lv_istore (lv' := [(5, .int (nI 1)), (0, .ref (ad 0 0)), (1, .int a), (2, .int b), (3, .int o), (4, .int v)]) hx hb dX3_wall_21 hl (by decide) rfl (fun ls hl => ?_)
      refine lv_iload_n hx hb dX3_wall_23 rfl (lv_at hl 2 rfl) ?_
      refine lv_iconstN hx hb 4 dX3_wall_24 (by decide) ?_
      refine lv_bipushN hx hb 16 dX3_wall_25 (by decide) ?_
      refine ro_S (As := [.int a, .int (nI 4), .int (nI 16)]) (rest := []) (v := bI (isInS a (nI 4) (nI 16))) hx hb hml hown hC hS hAb (mX3_isWithin l a (nI 4) (nI 16) ) kS_X3_32 ⟨rfl, rfl⟩ ⟨Nat.le_of_ble_eq_true rfl, Nat.le_of_ble_eq_true rfl⟩ rfl hl (Nat.le_of_ble_eq_true rfl) ⟨Nat.zero_le _, Nat.zero_le _⟩ dX3_wall_27 ?_
      refine lv_bif_eq (tgt := 57) hx hb dX3_wall_30 (by decide) (fun c_30 => ?_) (fun c_30 => ?_)
      · skip
        exact ex_throwR (j := 0) hx hb hst hC hU hown wCl_X3_36 tx_IA (by decide +kernel) rfl (hl.1.trans hml.symm) (Or.inl ⟨dX3_wall_61, dX3_wall_63, dX3_wall_66⟩) dX3_wall_57 dX3_wall_60 hout ⟨Nat.le_of_ble_eq_true rfl, Nat.le_of_ble_eq_true rfl⟩ hlocks ⟨by decide, rfl⟩
      · skip
        refine lv_iload_n hx hb dX3_wall_33 rfl (lv_at hl 3 rfl) ?_
        refine lv_iconstN hx hb 1 dX3_wall_34 (by decide) ?_
        refine lv_bipushN hx hb 9 dX3_wall_35 (by decide) ?_
        refine ro_S (As := [.int b, .int (nI 1), .int (nI 9)]) (rest := []) (v := bI (isInS b (nI 1) (nI 9))) hx hb hml hown hC hS hAb (mX3_isWithin l b (nI 1) (nI 9) ) kS_X3_32 ⟨rfl, rfl⟩ ⟨Nat.le_of_ble_eq_true rfl, Nat.le_of_ble_eq_true rfl⟩ rfl hl (Nat.le_of_ble_eq_true rfl) ⟨Nat.zero_le _, Nat.zero_le _⟩ dX3_wall_37 ?_
        refine lv_bif_eq (tgt := 57) hx hb dX3_wall_40 (by decide) (fun c_40 => ?_) (fun c_40 => ?_)
        · skip
          exact ex_throwR (j := 0) hx hb hst hC hU hown wCl_X3_36 tx_IA (by decide +kernel) rfl (hl.1.trans hml.symm) (Or.inl ⟨dX3_wall_61, dX3_wall_63, dX3_wall_66⟩) dX3_wall_57 dX3_wall_60 hout ⟨Nat.le_of_ble_eq_true rfl, Nat.le_of_ble_eq_true rfl⟩ hlocks ⟨by decide, rfl⟩
        · skip
          refine lv_iload_n hx hb dX3_wall_43 rfl (lv_at hl 4 rfl) ?_
          refine lv_iconstN hx hb 0 dX3_wall_44 (by decide) ?_
          refine lv_iconstN hx hb 3 dX3_wall_45 (by decide) ?_
          refine ro_S (As := [.int o, .int (nI 0), .int (nI 3)]) (rest := []) (v := bI (isInS o (nI 0) (nI 3))) hx hb hml hown hC hS hAb (mX3_isWithin l o (nI 0) (nI 3) ) kS_X3_32 ⟨rfl, rfl⟩ ⟨Nat.le_of_ble_eq_true rfl, Nat.le_of_ble_eq_true rfl⟩ rfl hl (Nat.le_of_ble_eq_true rfl) ⟨Nat.zero_le _, Nat.zero_le _⟩ dX3_wall_46 ?_
          refine lv_bif_eq (tgt := 57) hx hb dX3_wall_49 (by decide) (fun c_49 => ?_) (fun c_49 => ?_)
          · skip
            exact ex_throwR (j := 0) hx hb hst hC hU hown wCl_X3_36 tx_IA (by decide +kernel) rfl (hl.1.trans hml.symm) (Or.inl ⟨dX3_wall_61, dX3_wall_63, dX3_wall_66⟩) dX3_wall_57 dX3_wall_60 hout ⟨Nat.le_of_ble_eq_true rfl, Nat.le_of_ble_eq_true rfl⟩ hlocks ⟨by decide, rfl⟩
          · skip
            refine lv_iload hx hb dX3_wall_52 (lv_at hl 0 rfl) ?_
            refine lv_ifN_ne (tgt := 67) hx hb dX3_wall_54 (by decide) (by omega) (fun c_54 => ?_) (fun c_54 => ?_)
            · skip
              exact absurd ha (by simp [walOK, c_2, c_13, c_30, c_40, c_49])
            · skip
              exact absurd c_54 (by decide)
set_option maxHeartbeats 4000000 in
set_option maxRecDepth 100000 in
theorem mX3_wall_b2 (l : Launch) (hst : l.stackTraces = false) {E : En} {c : Cy} {ly : Ly} {L : List Nat} {ad : Nat → Nat → Nat} {H : Heap} (hX : PX E c ly L ad H) (a b o v : Int32) (ha : walOK a b o v = true) (hs : 6 ≤ c.R 10 0) : ExI l yX3_wall cX3_wall 7 .int 6 90 [.ref (ad 0 0), .int a, .int b, .int o, .int v] E H 1 (fun _ => xIS) 0 := by
  obtain ⟨hP, hly, hLb, wf⟩ := id hX
  refine ex_of (by decide) (Nat.le_of_ble_eq_true rfl) ?_
  intro p e s m below meth co ls hx hb hr hml hown hlocks hout hC hU hl
  have hS : va_S noA s.heap H [] := by rw [hU]; exact va_S.rf
  have hAb : ∀ q, noA q → bA E q := fun _ h => h.elim
  have hl : lv_has ls 7 [(0, .ref (ad 0 0)), (1, .int a), (2, .int b), (3, .int o), (4, .int v)] := hl
  refine lv_iload hx hb dX3_wall_0 (lv_at hl 4 rfl) ?_
  refine lv_if_eq (tgt := 16) hx hb dX3_wall_2 (by decide) (fun c_2 => ?_) (fun c_2 => ?_)
  · skip
    refine lv_iconstN hx hb 1 dX3_wall_16 (by decide) ?_
    refine lv_goto (tgt := 21) hx hb dX3_wall_17 (by decide) ?_
    refine lv_istore (lv' := [(5, .int (nI 1)), (0, .ref (ad 0 0)), (1, .int a), (2, .int b), (3, .int o), (4, .int v)]) hx hb dX3_wall_21 hl (by decide) rfl (fun ls hl => ?_)
    refine lv_iload_n hx hb dX3_wall_23 rfl (lv_at hl 2 rfl) ?_
    refine lv_iconstN hx hb 4 dX3_wall_24 (by decide) ?_
    refine lv_bipushN hx hb 16 dX3_wall_25 (by decide) ?_
    refine ro_S (As := [.int a, .int (nI 4), .int (nI 16)]) (rest := []) (v := bI (isInS a (nI 4) (nI 16))) hx hb hml hown hC hS hAb (mX3_isWithin l a (nI 4) (nI 16) ) kS_X3_32 ⟨rfl, rfl⟩ ⟨Nat.le_of_ble_eq_true rfl, Nat.le_of_ble_eq_true rfl⟩ rfl hl (Nat.le_of_ble_eq_true rfl) ⟨Nat.zero_le _, Nat.zero_le _⟩ dX3_wall_27 ?_
    refine lv_bif_eq (tgt := 57) hx hb dX3_wall_30 (by decide) (fun c_30 => ?_) (fun c_30 => ?_)
    · skip
      exact absurd ha (by simp [walOK, c_2, c_30])
    · skip
      refine lv_iload_n hx hb dX3_wall_33 rfl (lv_at hl 3 rfl) ?_
      refine lv_iconstN hx hb 1 dX3_wall_34 (by decide) ?_
      refine lv_bipushN hx hb 9 dX3_wall_35 (by decide) ?_
      refine ro_S (As := [.int b, .int (nI 1), .int (nI 9)]) (rest := []) (v := bI (isInS b (nI 1) (nI 9))) hx hb hml hown hC hS hAb (mX3_isWithin l b (nI 1) (nI 9) ) kS_X3_32 ⟨rfl, rfl⟩ ⟨Nat.le_of_ble_eq_true rfl, Nat.le_of_ble_eq_true rfl⟩ rfl hl (Nat.le_of_ble_eq_true rfl) ⟨Nat.zero_le _, Nat.zero_le _⟩ dX3_wall_37 ?_
      refine lv_bif_eq (tgt := 57) hx hb dX3_wall_40 (by decide) (fun c_40 => ?_) (fun c_40 => ?_)
      · skip
        exact absurd ha (by simp [walOK, c_2, c_30, c_40])
      · skip
        refine lv_iload_n hx hb dX3_wall_43 rfl (lv_at hl 4 rfl) ?_
        refine lv_iconstN hx hb 0 dX3_wall_44 (by decide) ?_
        refine lv_iconstN hx hb 3 dX3_wall_45 (by decide) ?_
        refine ro_S (As := [.int o, .int (nI 0), .int (nI 3)]) (rest := []) (v := bI (isInS o (nI 0) (nI 3))) hx hb hml hown hC hS hAb (mX3_isWithin l o (nI 0) (nI 3) ) kS_X3_32 ⟨rfl, rfl⟩ ⟨Nat.le_of_ble_eq_true rfl, Nat.le_of_ble_eq_true rfl⟩ rfl hl (Nat.le_of_ble_eq_true rfl) ⟨Nat.zero_le _, Nat.zero_le _⟩ dX3_wall_46 ?_
        refine lv_bif_eq (tgt := 57) hx hb dX3_wall_49 (by decide) (fun c_49 => ?_) (fun c_49 => ?_)
        · skip
          exact absurd ha (by simp [walOK, c_2, c_30, c_40, c_49])
        · skip
          refine lv_iload hx hb dX3_wall_52 (lv_at hl 0 rfl) ?_
          refine lv_ifN_ne (tgt := 67) hx hb dX3_wall_54 (by decide) (by omega) (fun c_54 => ?_) (fun c_54 => ?_)
          · skip
            refine lv_aload_n hx hb dX3_wall_67 rfl (lv_at hl 1 rfl) ?_
            refine pi_get hx hb hC hown hP fL_X3_10 0 0 cX_0 (v := .ref (ad 1 0)) rfl dX3_wall_68 ?_
            refine ro_V (As := []) (h0 := ad 1 0) (rest := []) (v := nI (c.R 10 0)) hx hb hml hown hC hS hAb (mJ_size l hP 0 (cX_1 (by decide))) kV_X3_43 ⟨rfl, rfl⟩ ⟨Nat.le_of_ble_eq_true rfl, Nat.le_of_ble_eq_true rfl⟩ (hP.recv hC (cX_1 (i := 0) (by decide)) rfl) rfl hl (Nat.le_of_ble_eq_true rfl) ⟨Nat.zero_le _, Nat.zero_le _⟩ dX3_wall_71 ?_
            have g_1 := wf.sw
            have g_2 := wf.nw
            refine lv_istore (lv' := [(6, .int (nI (c.R 10 0))), (5, .int (nI 1)), (0, .ref (ad 0 0)), (1, .int a), (2, .int b), (3, .int o), (4, .int v)]) hx hb dX3_wall_74 hl (by decide) rfl (fun ls hl => ?_)
            refine lv_iload hx hb dX3_wall_76 (lv_at hl 0 rfl) ?_
            refine lv_bipushN hx hb 6 dX3_wall_78 (by decide) ?_
            refine lv_icmpN_lt (tgt := 93) hx hb dX3_wall_80 (by decide) (by omega) (by omega) (fun c_80 => ?_) (fun c_80 => ?_)
            · skip
              exact absurd hs (by omega)
            · skip
              exact ex_throwR (j := 1) hx hb hst hC hU hown wCl_X3_47 tx_IS (by decide +kernel) rfl (hl.1.trans hml.symm) (Or.inl ⟨dX3_wall_87, dX3_wall_89, dX3_wall_92⟩) dX3_wall_83 dX3_wall_86 hout ⟨Nat.le_of_ble_eq_true rfl, Nat.le_of_ble_eq_true rfl⟩ hlocks ⟨by decide, rfl⟩
          · skip
            exact absurd c_54 (by decide)
  · skip
    refine lv_iload hx hb dX3_wall_5 (lv_at hl 4 rfl) ?_
    refine lv_iconstN hx hb 2 dX3_wall_7 (by decide) ?_
    refine lv_bipushN hx hb 20 dX3_wall_8 (by decide) ?_
    refine ro_S (As := [.int v, .int (nI 2), .int (nI 20)]) (rest := []) (v := bI (isInS v (nI 2) (nI 20))) hx hb hml hown hC hS hAb (mX3_isWithin l v (nI 2) (nI 20) ) kS_X3_32 ⟨rfl, rfl⟩ ⟨Nat.le_of_ble_eq_true rfl, Nat.le_of_ble_eq_true rfl⟩ rfl hl (Nat.le_of_ble_eq_true rfl) ⟨Nat.zero_le _, Nat.zero_le _⟩ dX3_wall_10 ?_
    refine lv_bif_eq (tgt := 20) hx hb dX3_wall_13 (by decide) (fun c_13 => ?_) (fun c_13 => ?_)
    · skip
      refine lv_iconstN hx hb 0 dX3_wall_20 (by decide) ?_
      refine lv_istore (lv' := [(5, .int (nI 0)), (0, .ref (ad 0 0)), (1, .int a), (2, .int b), (3, .int o), (4, .int v)]) hx hb dX3_wall_21 hl (by decide) rfl (fun ls hl => ?_)
      refine lv_iload_n hx hb dX3_wall_23 rfl (lv_at hl 2 rfl) ?_
      refine lv_iconstN hx hb 4 dX3_wall_24 (by decide) ?_
      refine lv_bipushN hx hb 16 dX3_wall_25 (by decide) ?_
      refine ro_S (As := [.int a, .int (nI 4), .int (nI 16)]) (rest := []) (v := bI (isInS a (nI 4) (nI 16))) hx hb hml hown hC hS hAb (mX3_isWithin l a (nI 4) (nI 16) ) kS_X3_32 ⟨rfl, rfl⟩ ⟨Nat.le_of_ble_eq_true rfl, Nat.le_of_ble_eq_true rfl⟩ rfl hl (Nat.le_of_ble_eq_true rfl) ⟨Nat.zero_le _, Nat.zero_le _⟩ dX3_wall_27 ?_
      refine lv_bif_eq (tgt := 57) hx hb dX3_wall_30 (by decide) (fun c_30 => ?_) (fun c_30 => ?_)
      · skip
        exact absurd ha (by simp [walOK, c_2, c_13, c_30])
      · skip
        refine lv_iload_n hx hb dX3_wall_33 rfl (lv_at hl 3 rfl) ?_
        refine lv_iconstN hx hb 1 dX3_wall_34 (by decide) ?_
        refine lv_bipushN hx hb 9 dX3_wall_35 (by decide) ?_
        refine ro_S (As := [.int b, .int (nI 1), .int (nI 9)]) (rest := []) (v := bI (isInS b (nI 1) (nI 9))) hx hb hml hown hC hS hAb (mX3_isWithin l b (nI 1) (nI 9) ) kS_X3_32 ⟨rfl, rfl⟩ ⟨Nat.le_of_ble_eq_true rfl, Nat.le_of_ble_eq_true rfl⟩ rfl hl (Nat.le_of_ble_eq_true rfl) ⟨Nat.zero_le _, Nat.zero_le _⟩ dX3_wall_37 ?_
        refine lv_bif_eq (tgt := 57) hx hb dX3_wall_40 (by decide) (fun c_40 => ?_) (fun c_40 => ?_)
        · skip
          exact absurd ha (by simp [walOK, c_2, c_13, c_30, c_40])
        · skip
          refine lv_iload_n hx hb dX3_wall_43 rfl (lv_at hl 4 rfl) ?_
          refine lv_iconstN hx hb 0 dX3_wall_44 (by decide) ?_
          refine lv_iconstN hx hb 3 dX3_wall_45 (by decide) ?_
          refine ro_S (As := [.int o, .int (nI 0), .int (nI 3)]) (rest := []) (v := bI (isInS o (nI 0) (nI 3))) hx hb hml hown hC hS hAb (mX3_isWithin l o (nI 0) (nI 3) ) kS_X3_32 ⟨rfl, rfl⟩ ⟨Nat.le_of_ble_eq_true rfl, Nat.le_of_ble_eq_true rfl⟩ rfl hl (Nat.le_of_ble_eq_true rfl) ⟨Nat.zero_le _, Nat.zero_le _⟩ dX3_wall_46 ?_
          refine lv_bif_eq (tgt := 57) hx hb dX3_wall_49 (by decide) (fun c_49 => ?_) (fun c_49 => ?_)
          · skip
            exact absurd ha (by simp [walOK, c_2, c_13, c_30, c_40, c_49])
          · skip
            refine lv_iload hx hb dX3_wall_52 (lv_at hl 0 rfl) ?_
            refine lv_ifN_ne (tgt := 67) hx hb dX3_wall_54 (by decide) (by omega) (fun c_54 => ?_) (fun c_54 => ?_)
            · skip
              exact absurd c_54 (by decide)
            · skip
              exact absurd ha (by simp [walOK, c_2, c_13, c_30, c_40, c_49])
    · skip
      refine lv_iconstN hx hb 1 dX3_wall_16 (by decide) ?_
      refine lv_goto (tgt := 21) hx hb dX3_wall_17 (by decide) ?_
      refine lv_istore (lv' := [(5, .int (nI 1)), (0, .ref (ad 0 0)), (1, .int a), (2, .int b), (3, .int o), (4, .int v)]) hx hb dX3_wall_21 hl (by decide) rfl (fun ls hl => ?_)
      refine lv_iload_n hx hb dX3_wall_23 rfl (lv_at hl 2 rfl) ?_
      refine lv_iconstN hx hb 4 dX3_wall_24 (by decide) ?_
      refine lv_bipushN hx hb 16 dX3_wall_25 (by decide) ?_
      refine ro_S (As := [.int a, .int (nI 4), .int (nI 16)]) (rest := []) (v := bI (isInS a (nI 4) (nI 16))) hx hb hml hown hC hS hAb (mX3_isWithin l a (nI 4) (nI 16) ) kS_X3_32 ⟨rfl, rfl⟩ ⟨Nat.le_of_ble_eq_true rfl, Nat.le_of_ble_eq_true rfl⟩ rfl hl (Nat.le_of_ble_eq_true rfl) ⟨Nat.zero_le _, Nat.zero_le _⟩ dX3_wall_27 ?_
      refine lv_bif_eq (tgt := 57) hx hb dX3_wall_30 (by decide) (fun c_30 => ?_) (fun c_30 => ?_)
      · skip
        exact absurd ha (by simp [walOK, c_2, c_13, c_30])
      · skip
        refine lv_iload_n hx hb dX3_wall_33 rfl (lv_at hl 3 rfl) ?_
        refine lv_iconstN hx hb 1 dX3_wall_34 (by decide) ?_
        refine lv_bipushN hx hb 9 dX3_wall_35 (by decide) ?_
        refine ro_S (As := [.int b, .int (nI 1), .int (nI 9)]) (rest := []) (v := bI (isInS b (nI 1) (nI 9))) hx hb hml hown hC hS hAb (mX3_isWithin l b (nI 1) (nI 9) ) kS_X3_32 ⟨rfl, rfl⟩ ⟨Nat.le_of_ble_eq_true rfl, Nat.le_of_ble_eq_true rfl⟩ rfl hl (Nat.le_of_ble_eq_true rfl) ⟨Nat.zero_le _, Nat.zero_le _⟩ dX3_wall_37 ?_
        refine lv_bif_eq (tgt := 57) hx hb dX3_wall_40 (by decide) (fun c_40 => ?_) (fun c_40 => ?_)
        · skip
          exact absurd ha (by simp [walOK, c_2, c_13, c_30, c_40])
        · skip
          refine lv_iload_n hx hb dX3_wall_43 rfl (lv_at hl 4 rfl) ?_
          refine lv_iconstN hx hb 0 dX3_wall_44 (by decide) ?_
          refine lv_iconstN hx hb 3 dX3_wall_45 (by decide) ?_
          refine ro_S (As := [.int o, .int (nI 0), .int (nI 3)]) (rest := []) (v := bI (isInS o (nI 0) (nI 3))) hx hb hml hown hC hS hAb (mX3_isWithin l o (nI 0) (nI 3) ) kS_X3_32 ⟨rfl, rfl⟩ ⟨Nat.le_of_ble_eq_true rfl, Nat.le_of_ble_eq_true rfl⟩ rfl hl (Nat.le_of_ble_eq_true rfl) ⟨Nat.zero_le _, Nat.zero_le _⟩ dX3_wall_46 ?_
          refine lv_bif_eq (tgt := 57) hx hb dX3_wall_49 (by decide) (fun c_49 => ?_) (fun c_49 => ?_)
          · skip
            exact absurd ha (by simp [walOK, c_2, c_13, c_30, c_40, c_49])
          · skip
            refine lv_iload hx hb dX3_wall_52 (lv_at hl 0 rfl) ?_
            refine lv_ifN_ne (tgt := 67) hx hb dX3_wall_54 (by decide) (by omega) (fun c_54 => ?_) (fun c_54 => ?_)
            · skip
              refine lv_aload_n hx hb dX3_wall_67 rfl (lv_at hl 1 rfl) ?_
              refine pi_get hx hb hC hown hP fL_X3_10 0 0 cX_0 (v := .ref (ad 1 0)) rfl dX3_wall_68 ?_
              refine ro_V (As := []) (h0 := ad 1 0) (rest := []) (v := nI (c.R 10 0)) hx hb hml hown hC hS hAb (mJ_size l hP 0 (cX_1 (by decide))) kV_X3_43 ⟨rfl, rfl⟩ ⟨Nat.le_of_ble_eq_true rfl, Nat.le_of_ble_eq_true rfl⟩ (hP.recv hC (cX_1 (i := 0) (by decide)) rfl) rfl hl (Nat.le_of_ble_eq_true rfl) ⟨Nat.zero_le _, Nat.zero_le _⟩ dX3_wall_71 ?_
              have g_3 := wf.sw
              have g_4 := wf.nw
              refine lv_istore (lv' := [(6, .int (nI (c.R 10 0))), (5, .int (nI 1)), (0, .ref (ad 0 0)), (1, .int a), (2, .int b), (3, .int o), (4, .int v)]) hx hb dX3_wall_74 hl (by decide) rfl (fun ls hl => ?_)
              refine lv_iload hx hb dX3_wall_76 (lv_at hl 0 rfl) ?_
              refine lv_bipushN hx hb 6 dX3_wall_78 (by decide) ?_
              refine lv_icmpN_lt (tgt := 93) hx hb dX3_wall_80 (by decide) (by omega) (by omega) (fun c_80 => ?_) (fun c_80 => ?_)
              · skip
                exact absurd hs (by omega)
              · skip
                exact ex_throwR (j := 1) hx hb hst hC hU hown wCl_X3_47 tx_IS (by decide +kernel) rfl (hl.1.trans hml.symm) (Or.inl ⟨dX3_wall_87, dX3_wall_89, dX3_wall_92⟩) dX3_wall_83 dX3_wall_86 hout ⟨Nat.le_of_ble_eq_true rfl, Nat.le_of_ble_eq_true rfl⟩ hlocks ⟨by decide, rfl⟩
            · skip
              exact absurd c_54 (by decide)
set_option maxHeartbeats 4000000 in
set_option maxRecDepth 100000 in
theorem mX3_hand_b1 (l : Launch) (hst : l.stackTraces = false) {E : En} {c : Cy} {ly : Ly} {L : List Nat} {ad : Nat → Nat → Nat} {H : Heap} (hX : PX E c ly L ad H) (a b o v : Int32) (ha : hanOK a b o v = false) : ExI l yX3_hand cX3_hand 6 .int 6 90 [.ref (ad 0 0), .int a, .int b, .int o, .int v] E H 1 (fun _ => xIA) 0 := by
  obtain ⟨hP, hly, hLb, wf⟩ := id hX
  refine ex_of (by decide) (Nat.le_of_ble_eq_true rfl) ?_
  intro p e s m below meth co ls hx hb hr hml hown hlocks hout hC hU hl
  have hS : va_S noA s.heap H [] := by rw [hU]; exact va_S.rf
  have hAb : ∀ q, noA q → bA E q := fun _ h => h.elim
  have hl : lv_has ls 6 [(0, .ref (ad 0 0)), (1, .int a), (2, .int b), (3, .int o), (4, .int v)] := hl
  refine lv_iload_n hx hb dX3_hand_0 rfl (lv_at hl 1 rfl) ?_
  refine lv_iconstN hx hb 0 dX3_hand_1 (by decide) ?_
  refine lv_iconstN hx hb 3 dX3_hand_2 (by decide) ?_
  refine ro_S (As := [.int a, .int (nI 0), .int (nI 3)]) (rest := []) (v := bI (isInS a (nI 0) (nI 3))) hx hb hml hown hC hS hAb (mX3_isWithin l a (nI 0) (nI 3) ) kS_X3_32 ⟨rfl, rfl⟩ ⟨Nat.le_of_ble_eq_true rfl, Nat.le_of_ble_eq_true rfl⟩ rfl hl (Nat.le_of_ble_eq_true rfl) ⟨Nat.zero_le _, Nat.zero_le _⟩ dX3_hand_3 ?_
  refine lv_bif_eq (tgt := 40) hx hb dX3_hand_6 (by decide) (fun c_6 => ?_) (fun c_6 => ?_)
  · skip
    exact ex_throwR (j := 2) hx hb hst hC hU hown wCl_X3_36 tx_IA (by decide +kernel) rfl (hl.1.trans hml.symm) (Or.inl ⟨dX3_hand_44, dX3_hand_46, dX3_hand_49⟩) dX3_hand_40 dX3_hand_43 hout ⟨Nat.le_of_ble_eq_true rfl, Nat.le_of_ble_eq_true rfl⟩ hlocks ⟨by decide, rfl⟩
  · skip
    refine lv_iload_n hx hb dX3_hand_9 rfl (lv_at hl 2 rfl) ?_
    refine lv_iconstN hx hb 1 dX3_hand_10 (by decide) ?_
    refine lv_bipushN hx hb 9 dX3_hand_11 (by decide) ?_
    refine ro_S (As := [.int b, .int (nI 1), .int (nI 9)]) (rest := []) (v := bI (isInS b (nI 1) (nI 9))) hx hb hml hown hC hS hAb (mX3_isWithin l b (nI 1) (nI 9) ) kS_X3_32 ⟨rfl, rfl⟩ ⟨Nat.le_of_ble_eq_true rfl, Nat.le_of_ble_eq_true rfl⟩ rfl hl (Nat.le_of_ble_eq_true rfl) ⟨Nat.zero_le _, Nat.zero_le _⟩ dX3_hand_13 ?_
    refine lv_bif_eq (tgt := 40) hx hb dX3_hand_16 (by decide) (fun c_16 => ?_) (fun c_16 => ?_)
    · skip
      exact ex_throwR (j := 2) hx hb hst hC hU hown wCl_X3_36 tx_IA (by decide +kernel) rfl (hl.1.trans hml.symm) (Or.inl ⟨dX3_hand_44, dX3_hand_46, dX3_hand_49⟩) dX3_hand_40 dX3_hand_43 hout ⟨Nat.le_of_ble_eq_true rfl, Nat.le_of_ble_eq_true rfl⟩ hlocks ⟨by decide, rfl⟩
    · skip
      refine lv_iload_n hx hb dX3_hand_19 rfl (lv_at hl 3 rfl) ?_
      refine lv_iconstN hx hb 0 dX3_hand_20 (by decide) ?_
      refine lv_bipushN hx hb 9 dX3_hand_21 (by decide) ?_
      refine ro_S (As := [.int o, .int (nI 0), .int (nI 9)]) (rest := []) (v := bI (isInS o (nI 0) (nI 9))) hx hb hml hown hC hS hAb (mX3_isWithin l o (nI 0) (nI 9) ) kS_X3_32 ⟨rfl, rfl⟩ ⟨Nat.le_of_ble_eq_true rfl, Nat.le_of_ble_eq_true rfl⟩ rfl hl (Nat.le_of_ble_eq_true rfl) ⟨Nat.zero_le _, Nat.zero_le _⟩ dX3_hand_23 ?_
      refine lv_bif_eq (tgt := 40) hx hb dX3_hand_26 (by decide) (fun c_26 => ?_) (fun c_26 => ?_)
      · skip
        exact ex_throwR (j := 2) hx hb hst hC hU hown wCl_X3_36 tx_IA (by decide +kernel) rfl (hl.1.trans hml.symm) (Or.inl ⟨dX3_hand_44, dX3_hand_46, dX3_hand_49⟩) dX3_hand_40 dX3_hand_43 hout ⟨Nat.le_of_ble_eq_true rfl, Nat.le_of_ble_eq_true rfl⟩ hlocks ⟨by decide, rfl⟩
      · skip
        refine lv_iload hx hb dX3_hand_29 (lv_at hl 4 rfl) ?_
        refine lv_iconstN hx hb 0 dX3_hand_31 (by decide) ?_
        refine lv_bipushN hx hb 9 dX3_hand_32 (by decide) ?_
        refine ro_S (As := [.int v, .int (nI 0), .int (nI 9)]) (rest := []) (v := bI (isInS v (nI 0) (nI 9))) hx hb hml hown hC hS hAb (mX3_isWithin l v (nI 0) (nI 9) ) kS_X3_32 ⟨rfl, rfl⟩ ⟨Nat.le_of_ble_eq_true rfl, Nat.le_of_ble_eq_true rfl⟩ rfl hl (Nat.le_of_ble_eq_true rfl) ⟨Nat.zero_le _, Nat.zero_le _⟩ dX3_hand_34 ?_
        refine lv_bif_ne (tgt := 50) hx hb dX3_hand_37 (by decide) (fun c_37 => ?_) (fun c_37 => ?_)
        · skip
          exact absurd ha (by simp [hanOK, c_6, c_16, c_26, c_37])
        · skip
          exact ex_throwR (j := 2) hx hb hst hC hU hown wCl_X3_36 tx_IA (by decide +kernel) rfl (hl.1.trans hml.symm) (Or.inl ⟨dX3_hand_44, dX3_hand_46, dX3_hand_49⟩) dX3_hand_40 dX3_hand_43 hout ⟨Nat.le_of_ble_eq_true rfl, Nat.le_of_ble_eq_true rfl⟩ hlocks ⟨by decide, rfl⟩
set_option maxHeartbeats 4000000 in
set_option maxRecDepth 100000 in
theorem mX3_hand_b2 (l : Launch) (hst : l.stackTraces = false) {E : En} {c : Cy} {ly : Ly} {L : List Nat} {ad : Nat → Nat → Nat} {H : Heap} (hX : PX E c ly L ad H) (a b o v : Int32) (ha : hanOK a b o v = true) (hs : 8 ≤ c.R 10 1) : ExI l yX3_hand cX3_hand 6 .int 6 90 [.ref (ad 0 0), .int a, .int b, .int o, .int v] E H 1 (fun _ => xIS) 0 := by
  obtain ⟨hP, hly, hLb, wf⟩ := id hX
  refine ex_of (by decide) (Nat.le_of_ble_eq_true rfl) ?_
  intro p e s m below meth co ls hx hb hr hml hown hlocks hout hC hU hl
  have hS : va_S noA s.heap H [] := by rw [hU]; exact va_S.rf
  have hAb : ∀ q, noA q → bA E q := fun _ h => h.elim
  have hl : lv_has ls 6 [(0, .ref (ad 0 0)), (1, .int a), (2, .int b), (3, .int o), (4, .int v)] := hl
  refine lv_iload_n hx hb dX3_hand_0 rfl (lv_at hl 1 rfl) ?_
  refine lv_iconstN hx hb 0 dX3_hand_1 (by decide) ?_
  refine lv_iconstN hx hb 3 dX3_hand_2 (by decide) ?_
  refine ro_S (As := [.int a, .int (nI 0), .int (nI 3)]) (rest := []) (v := bI (isInS a (nI 0) (nI 3))) hx hb hml hown hC hS hAb (mX3_isWithin l a (nI 0) (nI 3) ) kS_X3_32 ⟨rfl, rfl⟩ ⟨Nat.le_of_ble_eq_true rfl, Nat.le_of_ble_eq_true rfl⟩ rfl hl (Nat.le_of_ble_eq_true rfl) ⟨Nat.zero_le _, Nat.zero_le _⟩ dX3_hand_3 ?_
  refine lv_bif_eq (tgt := 40) hx hb dX3_hand_6 (by decide) (fun c_6 => ?_) (fun c_6 => ?_)
  · skip
    exact absurd ha (by simp [hanOK, c_6])
  · skip
    refine lv_iload_n hx hb dX3_hand_9 rfl (lv_at hl 2 rfl) ?_
    refine lv_iconstN hx hb 1 dX3_hand_10 (by decide) ?_
    refine lv_bipushN hx hb 9 dX3_hand_11 (by decide) ?_
    refine ro_S (As := [.int b, .int (nI 1), .int (nI 9)]) (rest := []) (v := bI (isInS b (nI 1) (nI 9))) hx hb hml hown hC hS hAb (mX3_isWithin l b (nI 1) (nI 9) ) kS_X3_32 ⟨rfl, rfl⟩ ⟨Nat.le_of_ble_eq_true rfl, Nat.le_of_ble_eq_true rfl⟩ rfl hl (Nat.le_of_ble_eq_true rfl) ⟨Nat.zero_le _, Nat.zero_le _⟩ dX3_hand_13 ?_
    refine lv_bif_eq (tgt := 40) hx hb dX3_hand_16 (by decide) (fun c_16 => ?_) (fun c_16 => ?_)
    · skip
      exact absurd ha (by simp [hanOK, c_6, c_16])
    · skip
      refine lv_iload_n hx hb dX3_hand_19 rfl (lv_at hl 3 rfl) ?_
      refine lv_iconstN hx hb 0 dX3_hand_20 (by decide) ?_
      refine lv_bipushN hx hb 9 dX3_hand_21 (by decide) ?_
      refine ro_S (As := [.int o, .int (nI 0), .int (nI 9)]) (rest := []) (v := bI (isInS o (nI 0) (nI 9))) hx hb hml hown hC hS hAb (mX3_isWithin l o (nI 0) (nI 9) ) kS_X3_32 ⟨rfl, rfl⟩ ⟨Nat.le_of_ble_eq_true rfl, Nat.le_of_ble_eq_true rfl⟩ rfl hl (Nat.le_of_ble_eq_true rfl) ⟨Nat.zero_le _, Nat.zero_le _⟩ dX3_hand_23 ?_
      refine lv_bif_eq (tgt := 40) hx hb dX3_hand_26 (by decide) (fun c_26 => ?_) (fun c_26 => ?_)
      · skip
        exact absurd ha (by simp [hanOK, c_6, c_16, c_26])
      · skip
        refine lv_iload hx hb dX3_hand_29 (lv_at hl 4 rfl) ?_
        refine lv_iconstN hx hb 0 dX3_hand_31 (by decide) ?_
        refine lv_bipushN hx hb 9 dX3_hand_32 (by decide) ?_
        refine ro_S (As := [.int v, .int (nI 0), .int (nI 9)]) (rest := []) (v := bI (isInS v (nI 0) (nI 9))) hx hb hml hown hC hS hAb (mX3_isWithin l v (nI 0) (nI 9) ) kS_X3_32 ⟨rfl, rfl⟩ ⟨Nat.le_of_ble_eq_true rfl, Nat.le_of_ble_eq_true rfl⟩ rfl hl (Nat.le_of_ble_eq_true rfl) ⟨Nat.zero_le _, Nat.zero_le _⟩ dX3_hand_34 ?_
        refine lv_bif_ne (tgt := 50) hx hb dX3_hand_37 (by decide) (fun c_37 => ?_) (fun c_37 => ?_)
        · skip
          refine lv_aload_n hx hb dX3_hand_50 rfl (lv_at hl 0 rfl) ?_
          refine pi_get hx hb hC hown hP fL_X3_16 0 0 cX_0 (v := .ref (ad 1 1)) rfl dX3_hand_51 ?_
          refine ro_V (As := []) (h0 := ad 1 1) (rest := []) (v := nI (c.R 10 1)) hx hb hml hown hC hS hAb (mJ_size l hP 1 (cX_1 (by decide))) kV_X3_43 ⟨rfl, rfl⟩ ⟨Nat.le_of_ble_eq_true rfl, Nat.le_of_ble_eq_true rfl⟩ (hP.recv hC (cX_1 (i := 1) (by decide)) rfl) rfl hl (Nat.le_of_ble_eq_true rfl) ⟨Nat.zero_le _, Nat.zero_le _⟩ dX3_hand_54 ?_
          have g_1 := wf.sh'
          have g_2 := wf.nh
          refine lv_istore (lv' := [(5, .int (nI (c.R 10 1))), (0, .ref (ad 0 0)), (1, .int a), (2, .int b), (3, .int o), (4, .int v)]) hx hb dX3_hand_57 hl (by decide) rfl (fun ls hl => ?_)
          refine lv_iload hx hb dX3_hand_59 (lv_at hl 0 rfl) ?_
          refine lv_bipushN hx hb 8 dX3_hand_61 (by decide) ?_
          refine lv_icmpN_lt (tgt := 76) hx hb dX3_hand_63 (by decide) (by omega) (by omega) (fun c_63 => ?_) (fun c_63 => ?_)
          · skip
            exact absurd hs (by omega)
          · skip
            exact ex_throwR (j := 3) hx hb hst hC hU hown wCl_X3_47 tx_IS (by decide +kernel) rfl (hl.1.trans hml.symm) (Or.inl ⟨dX3_hand_70, dX3_hand_72, dX3_hand_75⟩) dX3_hand_66 dX3_hand_69 hout ⟨Nat.le_of_ble_eq_true rfl, Nat.le_of_ble_eq_true rfl⟩ hlocks ⟨by decide, rfl⟩
        · skip
          exact absurd ha (by simp [hanOK, c_6, c_16, c_26, c_37])
set_option maxHeartbeats 4000000 in
set_option maxRecDepth 100000 in
theorem mX3_paint_b1 (l : Launch) (hst : l.stackTraces = false) {E : En} {c : Cy} {ly : Ly} {L : List Nat} {ad : Nat → Nat → Nat} {H : Heap} (hX : PX E c ly L ad H) (v w f u kd wb : Int32) (hv : isInS v (nI 0) (nI (c.R 10 1) - nI 1) = false) : ExI l yX3_paint cX3_paint 12 .int 7 111 [.ref (ad 0 0), .int v, .int w, .int f, .int u, .int kd, .int wb] E H 1 (fun _ => xIO) 0 := by
  obtain ⟨hP, hly, hLb, wf⟩ := id hX
  refine ex_of (by decide) (Nat.le_of_ble_eq_true rfl) ?_
  intro p e s m below meth co ls hx hb hr hml hown hlocks hout hC hU hl
  have hS : va_S noA s.heap H [] := by rw [hU]; exact va_S.rf
  have hAb : ∀ q, noA q → bA E q := fun _ h => h.elim
  have hl : lv_has ls 12 [(0, .ref (ad 0 0)), (1, .int v), (2, .int w), (3, .int f), (4, .int u), (5, .int kd), (6, .int wb)] := hl
  refine lv_aload_n hx hb dX3_paint_0 rfl (lv_at hl 0 rfl) ?_
  refine lv_iload_n hx hb dX3_paint_1 rfl (lv_at hl 1 rfl) ?_
  exact ex_VR (As := [.int v]) (h0 := ad 0 0) (rest := []) hx hb hml hown hlocks hout hC hU (mX3_handAt_b l hst hX v (by first | assumption | omega)) kV_X3_92 ⟨Nat.le_of_ble_eq_true rfl, Nat.le_of_ble_eq_true rfl⟩ (fun _ => ⟨by decide, rfl⟩) (hP.recv hC cX_0 rfl) rfl hl (Nat.le_of_ble_eq_true rfl) dX3_paint_2 (fun h => absurd h (by decide))
set_option maxHeartbeats 4000000 in
set_option maxRecDepth 100000 in
theorem mX3_paint_b2 (l : Launch) (hst : l.stackTraces = false) {E : En} {c : Cy} {ly : Ly} {L : List Nat} {ad : Nat → Nat → Nat} {H : Heap} (hX : PX E c ly L ad H) (h : Nat) (v f u kd wb : Int32) (hh : h < c.R 10 1) (hv : isInS v (nI 0) (nI (c.R 10 0) - nI 1) = false) : ExI l yX3_paint cX3_paint 12 .int 7 111 [.ref (ad 0 0), .int (nI h), .int v, .int f, .int u, .int kd, .int wb] E H 1 (fun _ => xIO) 0 := by
  obtain ⟨hP, hly, hLb, wf⟩ := id hX
  refine ex_of (by decide) (Nat.le_of_ble_eq_true rfl) ?_
  intro p e s m below meth co ls hx hb hr hml hown hlocks hout hC hU hl
  have hS : va_S noA s.heap H [] := by rw [hU]; exact va_S.rf
  have hAb : ∀ q, noA q → bA E q := fun _ h => h.elim
  have hl : lv_has ls 12 [(0, .ref (ad 0 0)), (1, .int (nI h)), (2, .int v), (3, .int f), (4, .int u), (5, .int kd), (6, .int wb)] := hl
  refine lv_aload_n hx hb dX3_paint_0 rfl (lv_at hl 0 rfl) ?_
  refine lv_iload_n hx hb dX3_paint_1 rfl (lv_at hl 1 rfl) ?_
  refine ro_VR (As := [.int (nI h)]) (h0 := ad 0 0) (rest := []) (v := some (ad 5 h)) hx hb hml hown hC hS hAb (mX3_handAt_g l hX h (by first | assumption | omega | (simp only [decide_eq_false_iff_not, decide_eq_true_eq] at *; omega))) kV_X3_92 ⟨rfl, rfl⟩ ⟨Nat.le_of_ble_eq_true rfl, Nat.le_of_ble_eq_true rfl⟩ (hP.recv hC cX_0 rfl) rfl hl (Nat.le_of_ble_eq_true rfl) ⟨Nat.zero_le _, Nat.zero_le _⟩ dX3_paint_2 ?_
  have hg_1 : h < c.R 11 1 := by have := wf.sw; have := wf.sh'; have := wf.sl; omega
  refine lv_astore (lv' := [(7, .ref (ad 5 h)), (0, .ref (ad 0 0)), (1, .int (nI h)), (2, .int v), (3, .int f), (4, .int u), (5, .int kd), (6, .int wb)]) hx hb dX3_paint_5 hl (by decide) rfl (fun ls hl => ?_)
  refine lv_aload_n hx hb dX3_paint_7 rfl (lv_at hl 1 rfl) ?_
  refine lv_iload_n hx hb dX3_paint_8 rfl (lv_at hl 3 rfl) ?_
  exact ex_VR (As := [.int v]) (h0 := ad 0 0) (rest := []) hx hb hml hown hlocks hout hC hU (mX3_wallAt_b l hst hX v (by first | assumption | omega)) kV_X3_68 ⟨Nat.le_of_ble_eq_true rfl, Nat.le_of_ble_eq_true rfl⟩ (fun _ => ⟨by decide, rfl⟩) (hP.recv hC cX_0 rfl) rfl hl (Nat.le_of_ble_eq_true rfl) dX3_paint_9 (fun h => absurd h (by decide))
set_option maxHeartbeats 4000000 in
set_option maxRecDepth 100000 in
theorem mX3_paint_b3 (l : Launch) (hst : l.stackTraces = false) {E : En} {c : Cy} {ly : Ly} {L : List Nat} {ad : Nat → Nat → Nat} {H : Heap} (hX : PX E c ly L ad H) (h i : Nat) (f u kd wb : Int32) (hh : h < c.R 10 1) (hi : i < c.R 10 0) (ha : paiOK c i f u kd wb = false) : ExI l yX3_paint cX3_paint 12 .int 6 90 [.ref (ad 0 0), .int (nI h), .int (nI i), .int f, .int u, .int kd, .int wb] E H 1 (fun _ => xIA) 0 := by
  obtain ⟨hP, hly, hLb, wf⟩ := id hX
  refine ex_of (by decide) (Nat.le_of_ble_eq_true rfl) ?_
  intro p e s m below meth co ls hx hb hr hml hown hlocks hout hC hU hl
  have hS : va_S noA s.heap H [] := by rw [hU]; exact va_S.rf
  have hAb : ∀ q, noA q → bA E q := fun _ h => h.elim
  have hl : lv_has ls 12 [(0, .ref (ad 0 0)), (1, .int (nI h)), (2, .int (nI i)), (3, .int f), (4, .int u), (5, .int kd), (6, .int wb)] := hl
  refine lv_aload_n hx hb dX3_paint_0 rfl (lv_at hl 0 rfl) ?_
  refine lv_iload_n hx hb dX3_paint_1 rfl (lv_at hl 1 rfl) ?_
  refine ro_VR (As := [.int (nI h)]) (h0 := ad 0 0) (rest := []) (v := some (ad 5 h)) hx hb hml hown hC hS hAb (mX3_handAt_g l hX h (by first | assumption | omega | (simp only [decide_eq_false_iff_not, decide_eq_true_eq] at *; omega))) kV_X3_92 ⟨rfl, rfl⟩ ⟨Nat.le_of_ble_eq_true rfl, Nat.le_of_ble_eq_true rfl⟩ (hP.recv hC cX_0 rfl) rfl hl (Nat.le_of_ble_eq_true rfl) ⟨Nat.zero_le _, Nat.zero_le _⟩ dX3_paint_2 ?_
  have hg_1 : h < c.R 11 1 := by have := wf.sw; have := wf.sh'; have := wf.sl; omega
  refine lv_astore (lv' := [(7, .ref (ad 5 h)), (0, .ref (ad 0 0)), (1, .int (nI h)), (2, .int (nI i)), (3, .int f), (4, .int u), (5, .int kd), (6, .int wb)]) hx hb dX3_paint_5 hl (by decide) rfl (fun ls hl => ?_)
  refine lv_aload_n hx hb dX3_paint_7 rfl (lv_at hl 1 rfl) ?_
  refine lv_iload_n hx hb dX3_paint_8 rfl (lv_at hl 3 rfl) ?_
  refine ro_VR (As := [.int (nI i)]) (h0 := ad 0 0) (rest := []) (v := some (ad 3 i)) hx hb hml hown hC hS hAb (mX3_wallAt_g l hX i (by first | assumption | omega | (simp only [decide_eq_false_iff_not, decide_eq_true_eq] at *; omega))) kV_X3_68 ⟨rfl, rfl⟩ ⟨Nat.le_of_ble_eq_true rfl, Nat.le_of_ble_eq_true rfl⟩ (hP.recv hC cX_0 rfl) rfl hl (Nat.le_of_ble_eq_true rfl) ⟨Nat.zero_le _, Nat.zero_le _⟩ dX3_paint_9 ?_
  have hg_2 : i < c.R 11 0 := by have := wf.sw; have := wf.sh'; have := wf.sl; omega
  refine lv_astore (lv' := [(8, .ref (ad 3 i)), (7, .ref (ad 5 h)), (0, .ref (ad 0 0)), (1, .int (nI h)), (2, .int (nI i)), (3, .int f), (4, .int u), (5, .int kd), (6, .int wb)]) hx hb dX3_paint_12 hl (by decide) rfl (fun ls hl => ?_)
  refine lv_aload hx hb dX3_paint_14 (lv_at hl 0 rfl) ?_
  refine lv_iload_n hx hb dX3_paint_16 rfl (lv_at hl 5 rfl) ?_
  refine lv_iload hx hb dX3_paint_17 (lv_at hl 6 rfl) ?_
  refine ro_V (As := [.int f, .int u]) (h0 := ad 3 i) (rest := []) (v := bI (hasS c i f u)) hx hb hml hown hC hS hAb (mX2_hasCells l hX i f u hg_2) kV_X3_96 ⟨rfl, rfl⟩ ⟨Nat.le_of_ble_eq_true rfl, Nat.le_of_ble_eq_true rfl⟩ (hP.recv hC (cX_3 hg_2) rfl) rfl hl (Nat.le_of_ble_eq_true rfl) ⟨Nat.zero_le _, Nat.zero_le _⟩ dX3_paint_19 ?_
  refine lv_bif_eq (tgt := 44) hx hb dX3_paint_22 (by decide) (fun c_22 => ?_) (fun c_22 => ?_)
  · skip
    exact ex_throwR (j := 16) hx hb hst hC hU hown wCl_X3_36 tx_IA (by decide +kernel) rfl (hl.1.trans hml.symm) (Or.inl ⟨dX3_paint_48, dX3_paint_50, dX3_paint_53⟩) dX3_paint_44 dX3_paint_47 hout ⟨Nat.le_of_ble_eq_true rfl, Nat.le_of_ble_eq_true rfl⟩ hlocks ⟨by decide, rfl⟩
  · skip
    refine lv_iload hx hb dX3_paint_25 (lv_at hl 7 rfl) ?_
    refine ro_S (As := [.int kd]) (rest := []) (v := bI (isInS kd (nI 0) (nI 3))) hx hb hml hown hC hS hAb (mX3_isKind l kd ) kS_X3_100 ⟨rfl, rfl⟩ ⟨Nat.le_of_ble_eq_true rfl, Nat.le_of_ble_eq_true rfl⟩ rfl hl (Nat.le_of_ble_eq_true rfl) ⟨Nat.zero_le _, Nat.zero_le _⟩ dX3_paint_27 ?_
    refine lv_bif_eq (tgt := 44) hx hb dX3_paint_30 (by decide) (fun c_30 => ?_) (fun c_30 => ?_)
    · skip
      exact ex_throwR (j := 16) hx hb hst hC hU hown wCl_X3_36 tx_IA (by decide +kernel) rfl (hl.1.trans hml.symm) (Or.inl ⟨dX3_paint_48, dX3_paint_50, dX3_paint_53⟩) dX3_paint_44 dX3_paint_47 hout ⟨Nat.le_of_ble_eq_true rfl, Nat.le_of_ble_eq_true rfl⟩ hlocks ⟨by decide, rfl⟩
    · skip
      refine lv_iload hx hb dX3_paint_33 (lv_at hl 8 rfl) ?_
      refine lv_bipush (v := -2) hx hb dX3_paint_35 (by decide) ?_
      refine lv_iconstN hx hb 2 dX3_paint_37 (by decide) ?_
      refine ro_S (As := [.int wb, .int (-2), .int (nI 2)]) (rest := []) (v := bI (isInS wb (-2) (nI 2))) hx hb hml hown hC hS hAb (mX3_isWithin l wb (-2) (nI 2) ) kS_X3_32 ⟨rfl, rfl⟩ ⟨Nat.le_of_ble_eq_true rfl, Nat.le_of_ble_eq_true rfl⟩ rfl hl (Nat.le_of_ble_eq_true rfl) ⟨Nat.zero_le _, Nat.zero_le _⟩ dX3_paint_38 ?_
      refine lv_bif_ne (tgt := 54) hx hb dX3_paint_41 (by decide) (fun c_41 => ?_) (fun c_41 => ?_)
      · skip
        exact absurd ha (by simp [paiOK, c_22, c_30, c_41])
      · skip
        exact ex_throwR (j := 16) hx hb hst hC hU hown wCl_X3_36 tx_IA (by decide +kernel) rfl (hl.1.trans hml.symm) (Or.inl ⟨dX3_paint_48, dX3_paint_50, dX3_paint_53⟩) dX3_paint_44 dX3_paint_47 hout ⟨Nat.le_of_ble_eq_true rfl, Nat.le_of_ble_eq_true rfl⟩ hlocks ⟨by decide, rfl⟩
set_option maxHeartbeats 4000000 in
set_option maxRecDepth 100000 in
theorem mX3_paint_b4 (l : Launch) (hst : l.stackTraces = false) {E : En} {c : Cy} {ly : Ly} {L : List Nat} {ad : Nat → Nat → Nat} {H : Heap} (hX : PX E c ly L ad H) (h i f u kd : Nat) (wb : Int32) (hh : h < c.R 10 1) (hi : i < c.R 10 0) (hp : hasS c i (nI f) (nI u) = true) (hu : u ≤ 16) (hkd : kd < 4) (hw : isInS wb (-2) (nI 2) = true) (hs : 360 - c.R 3 h < u * mcS c h kd ∨ 60 ≤ c.R 10 2) : ExI l yX3_paint cX3_paint 12 .int 6 90 [.ref (ad 0 0), .int (nI h), .int (nI i), .int (nI f), .int (nI u), .int (nI kd), .int wb] E H 1 (fun _ => xIS) 0 := by
  obtain ⟨hP, hly, hLb, wf⟩ := id hX
  refine ex_of (by decide) (Nat.le_of_ble_eq_true rfl) ?_
  intro p e s m below meth co ls hx hb hr hml hown hlocks hout hC hU hl
  have hS : va_S noA s.heap H [] := by rw [hU]; exact va_S.rf
  have hAb : ∀ q, noA q → bA E q := fun _ h => h.elim
  have hl : lv_has ls 12 [(0, .ref (ad 0 0)), (1, .int (nI h)), (2, .int (nI i)), (3, .int (nI f)), (4, .int (nI u)), (5, .int (nI kd)), (6, .int wb)] := hl
  have gm := mc_le wf (h := h) (k := kd) (by have := wf.sh'; omega)
  have gu : u * mcS c h kd ≤ 16 * 99 := Nat.mul_le_mul hu gm
  have gl := wf.nl
  refine lv_aload_n hx hb dX3_paint_0 rfl (lv_at hl 0 rfl) ?_
  refine lv_iload_n hx hb dX3_paint_1 rfl (lv_at hl 1 rfl) ?_
  refine ro_VR (As := [.int (nI h)]) (h0 := ad 0 0) (rest := []) (v := some (ad 5 h)) hx hb hml hown hC hS hAb (mX3_handAt_g l hX h (by first | assumption | omega | (simp only [decide_eq_false_iff_not, decide_eq_true_eq] at *; omega))) kV_X3_92 ⟨rfl, rfl⟩ ⟨Nat.le_of_ble_eq_true rfl, Nat.le_of_ble_eq_true rfl⟩ (hP.recv hC cX_0 rfl) rfl hl (Nat.le_of_ble_eq_true rfl) ⟨Nat.zero_le _, Nat.zero_le _⟩ dX3_paint_2 ?_
  have hg_1 : h < c.R 11 1 := by have := wf.sw; have := wf.sh'; have := wf.sl; omega
  refine lv_astore (lv' := [(7, .ref (ad 5 h)), (0, .ref (ad 0 0)), (1, .int (nI h)), (2, .int (nI i)), (3, .int (nI f)), (4, .int (nI u)), (5, .int (nI kd)), (6, .int wb)]) hx hb dX3_paint_5 hl (by decide) rfl (fun ls hl => ?_)
  refine lv_aload_n hx hb dX3_paint_7 rfl (lv_at hl 1 rfl) ?_
  refine lv_iload_n hx hb dX3_paint_8 rfl (lv_at hl 3 rfl) ?_
  refine ro_VR (As := [.int (nI i)]) (h0 := ad 0 0) (rest := []) (v := some (ad 3 i)) hx hb hml hown hC hS hAb (mX3_wallAt_g l hX i (by first | assumption | omega | (simp only [decide_eq_false_iff_not, decide_eq_true_eq] at *; omega))) kV_X3_68 ⟨rfl, rfl⟩ ⟨Nat.le_of_ble_eq_true rfl, Nat.le_of_ble_eq_true rfl⟩ (hP.recv hC cX_0 rfl) rfl hl (Nat.le_of_ble_eq_true rfl) ⟨Nat.zero_le _, Nat.zero_le _⟩ dX3_paint_9 ?_
  have hg_2 : i < c.R 11 0 := by have := wf.sw; have := wf.sh'; have := wf.sl; omega
  refine lv_astore (lv' := [(8, .ref (ad 3 i)), (7, .ref (ad 5 h)), (0, .ref (ad 0 0)), (1, .int (nI h)), (2, .int (nI i)), (3, .int (nI f)), (4, .int (nI u)), (5, .int (nI kd)), (6, .int wb)]) hx hb dX3_paint_12 hl (by decide) rfl (fun ls hl => ?_)
  refine lv_aload hx hb dX3_paint_14 (lv_at hl 0 rfl) ?_
  refine lv_iload_n hx hb dX3_paint_16 rfl (lv_at hl 5 rfl) ?_
  refine lv_iload hx hb dX3_paint_17 (lv_at hl 6 rfl) ?_
  refine ro_V (As := [.int (nI f), .int (nI u)]) (h0 := ad 3 i) (rest := []) (v := bI (hasS c i (nI f) (nI u))) hx hb hml hown hC hS hAb (mX2_hasCells l hX i (nI f) (nI u) hg_2) kV_X3_96 ⟨rfl, rfl⟩ ⟨Nat.le_of_ble_eq_true rfl, Nat.le_of_ble_eq_true rfl⟩ (hP.recv hC (cX_3 hg_2) rfl) rfl hl (Nat.le_of_ble_eq_true rfl) ⟨Nat.zero_le _, Nat.zero_le _⟩ dX3_paint_19 ?_
  refine lv_bif_eq (tgt := 44) hx hb dX3_paint_22 (by decide) (fun c_22 => ?_) (fun c_22 => ?_)
  · skip
    exact absurd (c_22.symm.trans hp) (by decide)
  · skip
    refine lv_iload hx hb dX3_paint_25 (lv_at hl 7 rfl) ?_
    refine ro_S (As := [.int (nI kd)]) (rest := []) (v := bI (isInS (nI kd) (nI 0) (nI 3))) hx hb hml hown hC hS hAb (mX3_isKind l (nI kd) ) kS_X3_100 ⟨rfl, rfl⟩ ⟨Nat.le_of_ble_eq_true rfl, Nat.le_of_ble_eq_true rfl⟩ rfl hl (Nat.le_of_ble_eq_true rfl) ⟨Nat.zero_le _, Nat.zero_le _⟩ dX3_paint_27 ?_
    refine lv_bif_eq (tgt := 44) hx hb dX3_paint_30 (by decide) (fun c_30 => ?_) (fun c_30 => ?_)
    · skip
      exact absurd (c_30.symm.trans (isIn_le (by omega) (by decide))) (by decide)
    · skip
      refine lv_iload hx hb dX3_paint_33 (lv_at hl 8 rfl) ?_
      refine lv_bipush (v := -2) hx hb dX3_paint_35 (by decide) ?_
      refine lv_iconstN hx hb 2 dX3_paint_37 (by decide) ?_
      refine ro_S (As := [.int wb, .int (-2), .int (nI 2)]) (rest := []) (v := bI (isInS wb (-2) (nI 2))) hx hb hml hown hC hS hAb (mX3_isWithin l wb (-2) (nI 2) ) kS_X3_32 ⟨rfl, rfl⟩ ⟨Nat.le_of_ble_eq_true rfl, Nat.le_of_ble_eq_true rfl⟩ rfl hl (Nat.le_of_ble_eq_true rfl) ⟨Nat.zero_le _, Nat.zero_le _⟩ dX3_paint_38 ?_
      refine lv_bif_ne (tgt := 54) hx hb dX3_paint_41 (by decide) (fun c_41 => ?_) (fun c_41 => ?_)
      · skip
        refine lv_iload hx hb dX3_paint_54 (lv_at hl 6 rfl) ?_
        refine lv_aload hx hb dX3_paint_56 (lv_at hl 1 rfl) ?_
        refine lv_iload hx hb dX3_paint_58 (lv_at hl 7 rfl) ?_
        refine ro_V (As := [.int (nI kd)]) (h0 := ad 5 h) (rest := [.int (nI u)]) (v := nI (mcS c h kd)) hx hb hml hown hC hS hAb (mX0_minutesOfCell l hX h kd hg_1 (by first | assumption | omega | (simp only [decide_eq_false_iff_not, decide_eq_true_eq] at *; omega))) kV_X3_106 ⟨rfl, rfl⟩ ⟨Nat.le_of_ble_eq_true rfl, Nat.le_of_ble_eq_true rfl⟩ (hP.recv hC (cX_5 hg_1) rfl) rfl hl (Nat.le_of_ble_eq_true rfl) ⟨Nat.zero_le _, Nat.zero_le _⟩ dX3_paint_60 ?_
        refine lv_imulN hx hb dX3_paint_63 ?_
        refine lv_istore (lv' := [(9, .int (nI (u * (mcS c h kd)))), (8, .ref (ad 3 i)), (7, .ref (ad 5 h)), (0, .ref (ad 0 0)), (1, .int (nI h)), (2, .int (nI i)), (3, .int (nI f)), (4, .int (nI u)), (5, .int (nI kd)), (6, .int wb)]) hx hb dX3_paint_64 hl (by decide) rfl (fun ls hl => ?_)
        refine lv_iload hx hb dX3_paint_66 (lv_at hl 0 rfl) ?_
        refine lv_aload hx hb dX3_paint_68 (lv_at hl 2 rfl) ?_
        refine ro_V (As := []) (h0 := ad 5 h) (rest := [.int (nI (u * (mcS c h kd)))]) (v := nI (360 - c.R 3 h)) hx hb hml hown hC hS hAb (mX0_minutesLeft l hX h hg_1) kV_X3_109 ⟨rfl, rfl⟩ ⟨Nat.le_of_ble_eq_true rfl, Nat.le_of_ble_eq_true rfl⟩ (hP.recv hC (cX_5 hg_1) rfl) rfl hl (Nat.le_of_ble_eq_true rfl) ⟨Nat.zero_le _, Nat.zero_le _⟩ dX3_paint_70 ?_
        refine lv_icmpN_gt (tgt := 88) hx hb dX3_paint_73 (by decide) (by omega) (by omega) (fun c_73 => ?_) (fun c_73 => ?_)
        · skip
          exact ex_throwR (j := 20) hx hb hst hC hU hown wCl_X3_47 tx_IS (by decide +kernel) rfl (hl.1.trans hml.symm) (Or.inl ⟨dX3_paint_92, dX3_paint_94, dX3_paint_97⟩) dX3_paint_88 dX3_paint_91 hout ⟨Nat.le_of_ble_eq_true rfl, Nat.le_of_ble_eq_true rfl⟩ hlocks ⟨by decide, rfl⟩
        · skip
          refine lv_aload_n hx hb dX3_paint_76 rfl (lv_at hl 3 rfl) ?_
          refine pi_get hx hb hC hown hP fL_X3_19 0 0 cX_0 (v := .ref (ad 1 2)) rfl dX3_paint_77 ?_
          refine ro_V (As := []) (h0 := ad 1 2) (rest := []) (v := nI (c.R 10 2)) hx hb hml hown hC hS hAb (mJ_size l hP 2 (cX_1 (by decide))) kV_X3_43 ⟨rfl, rfl⟩ ⟨Nat.le_of_ble_eq_true rfl, Nat.le_of_ble_eq_true rfl⟩ (hP.recv hC (cX_1 (i := 2) (by decide)) rfl) rfl hl (Nat.le_of_ble_eq_true rfl) ⟨Nat.zero_le _, Nat.zero_le _⟩ dX3_paint_80 ?_
          have g_3 := wf.sl
          have g_4 := wf.nl
          refine lv_bipushN hx hb 60 dX3_paint_83 (by decide) ?_
          refine lv_icmpN_lt (tgt := 98) hx hb dX3_paint_85 (by decide) (by omega) (by omega) (fun c_85 => ?_) (fun c_85 => ?_)
          · skip
            exact absurd hs (by omega)
          · skip
            exact ex_throwR (j := 20) hx hb hst hC hU hown wCl_X3_47 tx_IS (by decide +kernel) rfl (hl.1.trans hml.symm) (Or.inl ⟨dX3_paint_92, dX3_paint_94, dX3_paint_97⟩) dX3_paint_88 dX3_paint_91 hout ⟨Nat.le_of_ble_eq_true rfl, Nat.le_of_ble_eq_true rfl⟩ hlocks ⟨by decide, rfl⟩
      · skip
        exact absurd (c_41.symm.trans hw) (by decide)
