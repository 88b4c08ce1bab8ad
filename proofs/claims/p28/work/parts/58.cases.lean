/-! the law's cases -/
theorem kB_L_48 : KB RL 48 yL_isBuffed cL_isBuffed 9 [(54, 96, 100, 106)] 3 := KB.of wMl_L_48 (wg_t 667 (by decide +kernel) (by decide +kernel)) wIn_L (wg_t 668 (by decide +kernel) (by decide +kernel)) (by decide +kernel)
theorem kB_L_74 : KB RL 74 yL_isPainted cL_isPainted 16 [(76, 94, 98, 106)] 8 := KB.of wMl_L_74 (wg_t 677 (by decide +kernel) (by decide +kernel)) wIn_L (wg_t 678 (by decide +kernel) (by decide +kernel)) (by decide +kernel)
def LC (p : Program) (l : Launch) (s : State) (m : MethodId) (co : Code) (E : En) (b Ln : Nat) (xs : Nat → Int32) : Prop :=
  p.tables.exec = Jvm.exec ∧ co.code = code ∧ co.maxLocals = 22 ∧ s.vm.findClass RL = some m.cls ∧ Cs E s ∧ va_X b Ln xs s s.heap ∧ b < s.heap.size ∧ E.2 0 = s.heap.size ∧ l.stackTraces = false ∧ Ln ≤ 260
section CAS
variable {p : Program} {l : Launch} {e : Env} {s : State} {m : MethodId} {below : List Frame} {meth : Method} {co : Code} {bb Ln : Nat} {xs : Nat → Int32} {E : En} {Q : State → Prop}
set_option maxHeartbeats 4000000 in
set_option maxRecDepth 100000 in
theorem lc_permit (C : LC p l s m co E bb Ln xs) {x aw af hs : Nat} {g F : Nat → Int32} {cy : Cy} {H : Heap} {locs : List Loc} (hW : CW E x cy [aw, af] H) (hI_aw : iA E aw 3 g H) (hI_af : iA E af hs F H) (hne_aw_af : aw ≠ af) (hA_aw : bA E aw) (hA_af : bA E af) {k : Nat} (G : GI cy g hs F k) (hs3 : 3 ≤ hs) (hk : k < 58) (hS : va_S (bA E) s.heap H locs) {cells slots : Nat} (hcs : cells ≤ 1000 ∧ slots ≤ 100000) (vx vy : Int32) {hh ww : Nat} (hhh : hh < hs) (hww : ww < 3) (kk : ∀ (H1 : Heap) (locs1 : List Loc) (c2 : Cy) (F2 : Nat → Int32) (ls1 : Array Slot), CW E x c2 [aw, af] H1 → iA E aw 3 g H1 → iA E af hs F2 H1 → GI c2 g hs F2 (k + 1) → va_S (bA E) s.heap H1 locs1 → lv_has ls1 22 [(0, .ref bb), (1, .ref x), (2, .ref aw), (3, .int (nI hs)), (4, .ref af), (5, .int (nI k))] → W p l e room_1 s m #[Value.ref bb] below meth co H1 locs1 (cells + 2) (slots + 211) Q (F0 m 882 ls1 [])) {ls : Array Slot} (hl : lv_has ls 22 [(0, .ref bb), (1, .ref x), (2, .ref aw), (3, .int (nI hs)), (4, .ref af), (5, .int (nI k)), (6, .int vx), (7, .int vy), (8, .int (nI hh)), (9, .int (nI ww)), (10, .int (nI (cy.R 10 2))), (11, .int (cy.I 0 0))]) : W p l e room_1 s m #[Value.ref bb] below meth co H locs cells slots Q (F0 m 336 ls []) := by
  obtain ⟨hx, hb, hml, hown, hC, hXs, hbl, hE0, hst, hLn⟩ := C
  have hAb : ∀ q, bA E q → bA E q := fun _ h => h
  have hbA : ¬ bA E bb := fun z => absurd hbl (Nat.not_lt.mpr (by rw [← hE0]; exact z))
  have wf := hW.wf
  have hw3 := G.nw
  have hw1 := G.nw1
  have hwh := G.nh
  have hwh1 := G.nh1
  have hwl := G.nl
  have hwl6 := wf.nl
  have hwh8 := wf.nh
  have hnt := wf.nt
  have hti := G.ti
  have hne_af_aw : af ≠ aw := Ne.symm hne_aw_af
  have hwd := wf.wd (show ww < cy.R 11 0 by omega)
  refine lv_aload_n hx hb dL_law_336 rfl (lv_at hl 1 rfl) ?_
  refine lv_iload hx hb dL_law_337 (lv_at hl 9 rfl) ?_
  refine lv_iload hx hb dL_law_339 (lv_at hl 6 rfl) ?_
  refine lv_iconstN hx hb 4 dL_law_341 (by decide) ?_
  refine lv_ishr hx hb dL_law_342 ?_
  refine lv_iconstN hx hb 4 dL_law_343 (by decide) ?_
  refine ro_S (As := [.int (vx >>> (nI 4 &&& 31)), .int (nI 4)]) (rest := [.int (nI ww), .ref x]) (v := nI (blN (vx >>> (nI 4 &&& 31)) 4)) hx hb hml hown hC hS hAb (mL_below l (vx >>> (nI 4 &&& 31)) 4 (by first | assumption | omega) (by omega)) kS_L_18 ⟨rfl, rfl⟩ ⟨Nat.le_of_ble_eq_true rfl, Nat.le_of_ble_eq_true rfl⟩ rfl hl (Nat.le_of_ble_eq_true rfl) ⟨show cells ≤ (600074 : Nat) by omega, show slots ≤ (7301550 : Nat) by omega⟩ dL_law_344 ?_
  have hb_1 : blN (vx >>> (nI 4 &&& 31)) 4 < 4 := blN_lt (by first | assumption | omega)
  refine lv_sipushN hx hb 400 dL_law_347 (by decide) ?_
  refine lv_aload_n hx hb dL_law_350 rfl (lv_at hl 1 rfl) ?_
  refine lv_iconstN hx hb 0 dL_law_351 (by decide) ?_
  refine la_V (As := [.int (nI 0)]) (rest := [.int (nI 400), .int (nI (blN (vx >>> (nI 4 &&& 31)) 4)), .int (nI ww), .ref x]) (v := nI (cy.R 0 0)) hx hb hml hown hC hS hAb hW (fun ly L ad hX => RoI.cast ma0 (mX3_many_g l hX 0 (show 0 ≤ 11 by first | assumption | omega))) kV_L_29 ⟨rfl, rfl⟩ ⟨Nat.le_of_ble_eq_true rfl, Nat.le_of_ble_eq_true rfl⟩ rfl hl (Nat.le_of_ble_eq_true rfl) ⟨show cells ≤ (600074 : Nat) by omega, show slots ≤ (7301550 : Nat) by omega⟩ dL_law_352 ?_
  refine lv_iload hx hb dL_law_355 (lv_at hl 6 rfl) ?_
  refine lv_bipushN hx hb 6 dL_law_357 (by decide) ?_
  refine lv_ishr hx hb dL_law_359 ?_
  refine lv_bipushN hx hb 9 dL_law_360 (by decide) ?_
  refine ro_S (As := [.int (vx >>> (nI 6 &&& 31)), .int (nI 9)]) (rest := [.int (nI (cy.R 0 0)), .int (nI 400), .int (nI (blN (vx >>> (nI 4 &&& 31)) 4)), .int (nI ww), .ref x]) (v := nI (blN (vx >>> (nI 6 &&& 31)) 9)) hx hb hml hown hC hS hAb (mL_below l (vx >>> (nI 6 &&& 31)) 9 (by first | assumption | omega) (by omega)) kS_L_18 ⟨rfl, rfl⟩ ⟨Nat.le_of_ble_eq_true rfl, Nat.le_of_ble_eq_true rfl⟩ rfl hl (Nat.le_of_ble_eq_true rfl) ⟨show cells ≤ (600074 : Nat) by omega, show slots ≤ (7301550 : Nat) by omega⟩ dL_law_362 ?_
  have hb_2 : blN (vx >>> (nI 6 &&& 31)) 9 < 9 := blN_lt (by first | assumption | omega)
  refine lv_iaddN hx hb dL_law_365 ?_
  refine va_mmin hx hb (hml.trans hl.1.symm) hown (hC.2.1.hts _ _ wMin_L) (hC.2.1.hts _ _ wMinS) (hC.2.1.hts _ _ wAbsI) (hC.2.1.hts _ _ wMinC) (Nat.le_of_ble_eq_true rfl) (Nat.le_of_ble_eq_true rfl) (show _ ≤ (600074 : Nat) by omega) (show _ ≤ (7301550 : Nat) by omega) (x := nI 400) (y := nI ((cy.R 0 0) + (blN (vx >>> (nI 6 &&& 31)) 9))) dL_law_366 ?_
  rw [nI_min (by omega) (by omega)]
  refine lu_V (c2 := peC cy ww (blN (vx >>> (nI 4 &&& 31)) 4) (min 400 (cy.R 0 0 + blN (vx >>> (nI 6 &&& 31)) 9))) (As := [.int (nI ww), .int (nI (blN (vx >>> (nI 4 &&& 31)) 4)), .int (nI (min 400 ((cy.R 0 0) + (blN (vx >>> (nI 6 &&& 31)) 9))))]) (rest := []) (v := pcS cy ww (nI (cy.R 0 0))) hx hb hml hown hC hS hAb (fun q h => h.1) hW (fun ly L ad hX => mX3_permit_g l hX ww (nI (blN (vx >>> (nI 4 &&& 31)) 4)) (nI (min 400 ((cy.R 0 0) + (blN (vx >>> (nI 6 &&& 31)) 9)))) (show ww < cy.R 10 0 by first | assumption | omega) (isIn_1 (Nat.zero_le _) (by omega) (by decide)) (isIn_1 (by omega) (by omega) (by decide))) kV_L_38 ⟨rfl, rfl⟩ ⟨Nat.le_of_ble_eq_true rfl, Nat.le_of_ble_eq_true rfl⟩ rfl hl (Nat.le_of_ble_eq_true rfl) ⟨show cells + 0 ≤ (600074 : Nat) by omega, show slots + 0 ≤ (7301550 : Nat) by omega⟩ dL_law_369 (fun H locs hW hS hz hk => ?_)
  have hI_aw := hI_aw.kept (hk aw (by simp))
  have hI_af := hI_af.kept (hk af (by simp))
  skip
  refine lv_iconst (v := -1) hx hb dL_law_372 (by decide) ?_
  refine lv_icmp_lt (tgt := 394) hx hb dL_law_373 (by decide) (fun c_373 => ?_) (fun c_373 => ?_)
  · skip
    exact absurd c_373 (pc_ge G hww _)
  · skip
    refine lv_aload_n hx hb dL_law_376 rfl (lv_at hl 1 rfl) ?_
    refine lv_iload hx hb dL_law_377 (lv_at hl 9 rfl) ?_
    refine lv_iconstN hx hb 3 dL_law_379 (by decide) ?_
    refine la_V (As := [.int (nI ww), .int (nI 3)]) (rest := []) (v := nI (blN (vx >>> (nI 4 &&& 31)) 4)) hx hb hml hown hC hS hAb hW (fun ly L ad hX => RoI.cast (ow3.trans (pe_pc (by omega) (by omega))) (mX3_ofWall_g l hX ww 3 (show ww < (peC cy ww (blN (vx >>> (nI 4 &&& 31)) 4) (min 400 (cy.R 0 0 + blN (vx >>> (nI 6 &&& 31)) 9))).R 10 0 by simp only [pe_R]; first | assumption | omega) (show 3 ≤ 6 by first | assumption | omega))) kV_L_42 ⟨rfl, rfl⟩ ⟨Nat.le_of_ble_eq_true rfl, Nat.le_of_ble_eq_true rfl⟩ rfl hl (Nat.le_of_ble_eq_true rfl) ⟨show cells + 0 ≤ (600074 : Nat) by omega, show slots + 0 ≤ (7301550 : Nat) by omega⟩ dL_law_380 ?_
    refine lv_iload hx hb dL_law_383 (lv_at hl 6 rfl) ?_
    refine lv_iconstN hx hb 4 dL_law_385 (by decide) ?_
    refine lv_ishr hx hb dL_law_386 ?_
    refine lv_iconstN hx hb 4 dL_law_387 (by decide) ?_
    refine ro_S (As := [.int (vx >>> (nI 4 &&& 31)), .int (nI 4)]) (rest := [.int (nI (blN (vx >>> (nI 4 &&& 31)) 4))]) (v := nI (blN (vx >>> (nI 4 &&& 31)) 4)) hx hb hml hown hC hS hAb (mL_below l (vx >>> (nI 4 &&& 31)) 4 (by first | assumption | omega) (by omega)) kS_L_18 ⟨rfl, rfl⟩ ⟨Nat.le_of_ble_eq_true rfl, Nat.le_of_ble_eq_true rfl⟩ rfl hl (Nat.le_of_ble_eq_true rfl) ⟨show cells + 0 ≤ (600074 : Nat) by omega, show slots + 0 ≤ (7301550 : Nat) by omega⟩ dL_law_388 ?_
    have hb_3 : blN (vx >>> (nI 4 &&& 31)) 4 < 4 := blN_lt (by first | assumption | omega)
    refine lv_icmpN_eq (tgt := 882) hx hb dL_law_391 (by decide) (by omega) (by omega) (fun c_391 => ?_) (fun c_391 => ?_)
    · skip
      refine W.widen (k := cells + 2) (n := slots + 211) (by omega) (by omega) ?_
      exact kk _ _ _ _ _ hW hI_aw hI_af (pe_GI G (by omega)) hS (lv_sub hl [0, 1, 2, 3, 4, 5] rfl)
    · skip
      exact absurd rfl c_391
set_option maxHeartbeats 4000000 in
set_option maxRecDepth 100000 in
theorem lc_watch (C : LC p l s m co E bb Ln xs) {x aw af hs : Nat} {g F : Nat → Int32} {cy : Cy} {H : Heap} {locs : List Loc} (hW : CW E x cy [aw, af] H) (hI_aw : iA E aw 3 g H) (hI_af : iA E af hs F H) (hne_aw_af : aw ≠ af) (hA_aw : bA E aw) (hA_af : bA E af) {k : Nat} (G : GI cy g hs F k) (hs3 : 3 ≤ hs) (hk : k < 58) (hS : va_S (bA E) s.heap H locs) {cells slots : Nat} (hcs : cells ≤ 1000 ∧ slots ≤ 100000) (vx vy : Int32) {hh ww : Nat} (hhh : hh < hs) (hww : ww < 3) (kk : ∀ (H1 : Heap) (locs1 : List Loc) (c2 : Cy) (F2 : Nat → Int32) (ls1 : Array Slot), CW E x c2 [aw, af] H1 → iA E aw 3 g H1 → iA E af hs F2 H1 → GI c2 g hs F2 (k + 1) → va_S (bA E) s.heap H1 locs1 → lv_has ls1 22 [(0, .ref bb), (1, .ref x), (2, .ref aw), (3, .int (nI hs)), (4, .ref af), (5, .int (nI k))] → W p l e room_1 s m #[Value.ref bb] below meth co H1 locs1 (cells + 2) (slots + 211) Q (F0 m 882 ls1 [])) {ls : Array Slot} (hl : lv_has ls 22 [(0, .ref bb), (1, .ref x), (2, .ref aw), (3, .int (nI hs)), (4, .ref af), (5, .int (nI k)), (6, .int vx), (7, .int vy), (8, .int (nI hh)), (9, .int (nI ww)), (10, .int (nI (cy.R 10 2))), (11, .int (cy.I 0 0))]) : W p l e room_1 s m #[Value.ref bb] below meth co H locs cells slots Q (F0 m 396 ls []) := by
  obtain ⟨hx, hb, hml, hown, hC, hXs, hbl, hE0, hst, hLn⟩ := C
  have hAb : ∀ q, bA E q → bA E q := fun _ h => h
  have hbA : ¬ bA E bb := fun z => absurd hbl (Nat.not_lt.mpr (by rw [← hE0]; exact z))
  have wf := hW.wf
  have hw3 := G.nw
  have hw1 := G.nw1
  have hwh := G.nh
  have hwh1 := G.nh1
  have hwl := G.nl
  have hwl6 := wf.nl
  have hwh8 := wf.nh
  have hnt := wf.nt
  have hti := G.ti
  have hne_af_aw : af ≠ aw := Ne.symm hne_aw_af
  have hwd := wf.wd (show ww < cy.R 11 0 by omega)
  refine lv_aload_n hx hb dL_law_396 rfl (lv_at hl 1 rfl) ?_
  refine lv_iload hx hb dL_law_397 (lv_at hl 9 rfl) ?_
  refine lv_iload hx hb dL_law_399 (lv_at hl 6 rfl) ?_
  refine lv_iconstN hx hb 2 dL_law_401 (by decide) ?_
  refine lv_ishr hx hb dL_law_402 ?_
  refine lv_sipushN hx hb 200 dL_law_403 (by decide) ?_
  refine ro_S (As := [.int (vx >>> (nI 2 &&& 31)), .int (nI 200)]) (rest := [.int (nI ww), .ref x]) (v := nI (blN (vx >>> (nI 2 &&& 31)) 200)) hx hb hml hown hC hS hAb (mL_below l (vx >>> (nI 2 &&& 31)) 200 (by first | assumption | omega) (by omega)) kS_L_18 ⟨rfl, rfl⟩ ⟨Nat.le_of_ble_eq_true rfl, Nat.le_of_ble_eq_true rfl⟩ rfl hl (Nat.le_of_ble_eq_true rfl) ⟨show cells ≤ (600074 : Nat) by omega, show slots ≤ (7301550 : Nat) by omega⟩ dL_law_406 ?_
  have hb_1 : blN (vx >>> (nI 2 &&& 31)) 200 < 200 := blN_lt (by first | assumption | omega)
  refine lv_sipushN hx hb 200 dL_law_409 (by decide) ?_
  refine lv_iload hx hb dL_law_412 (lv_at hl 7 rfl) ?_
  refine lv_sipushN hx hb 160 dL_law_414 (by decide) ?_
  refine ro_S (As := [.int vy, .int (nI 160)]) (rest := [.int (nI 200), .int (nI (blN (vx >>> (nI 2 &&& 31)) 200)), .int (nI ww), .ref x]) (v := nI (blN vy 160)) hx hb hml hown hC hS hAb (mL_below l vy 160 (by first | assumption | omega) (by omega)) kS_L_18 ⟨rfl, rfl⟩ ⟨Nat.le_of_ble_eq_true rfl, Nat.le_of_ble_eq_true rfl⟩ rfl hl (Nat.le_of_ble_eq_true rfl) ⟨show cells ≤ (600074 : Nat) by omega, show slots ≤ (7301550 : Nat) by omega⟩ dL_law_417 ?_
  have hb_2 : blN vy 160 < 160 := blN_lt (by first | assumption | omega)
  refine lv_iaddN hx hb dL_law_420 ?_
  refine lu_V (c2 := waC cy ww (blN (vx >>> (nI 2 &&& 31)) 200) (200 + blN vy 160)) (As := [.int (nI ww), .int (nI (blN (vx >>> (nI 2 &&& 31)) 200)), .int (nI (200 + (blN vy 160)))]) (rest := []) (v := nI (200 + (blN vy 160)) - nI (blN (vx >>> (nI 2 &&& 31)) 200) + nI 1) hx hb hml hown hC hS hAb (fun q h => h.1) hW (fun ly L ad hX => mX3_watch_g l hX ww (blN (vx >>> (nI 2 &&& 31)) 200) (200 + (blN vy 160)) (show ww < cy.R 10 0 by first | assumption | omega) (isIn_1 (Nat.zero_le _) (by omega) (by decide)) (isIn_1 (by omega) (by omega) (by decide)) (show (blN (vx >>> (nI 2 &&& 31)) 200) < 360 by first | assumption | omega)) kV_L_45 ⟨rfl, rfl⟩ ⟨Nat.le_of_ble_eq_true rfl, Nat.le_of_ble_eq_true rfl⟩ rfl hl (Nat.le_of_ble_eq_true rfl) ⟨show cells + 0 ≤ (600074 : Nat) by omega, show slots + 0 ≤ (7301550 : Nat) by omega⟩ dL_law_421 (fun H locs hW hS hz hk => ?_)
  have hI_aw := hI_aw.kept (hk aw (by simp))
  have hI_af := hI_af.kept (hk af (by simp))
  refine lv_iconstN hx hb 1 dL_law_424 (by decide) ?_
  refine lv_icmp_ge (tgt := 882) hx hb dL_law_425 (by decide) (fun c_425 => ?_) (fun c_425 => ?_)
  · skip
    have c_425 := Int32.not_lt.mpr c_425
    refine W.widen (k := cells + 2) (n := slots + 211) (by omega) (by omega) ?_
    exact kk _ _ _ _ _ hW hI_aw hI_af (wc_GI G) hS (lv_sub hl [0, 1, 2, 3, 4, 5] rfl)
  · skip
    have c_425 := Int32.not_le.mp c_425
    exact absurd c_425 (wa_v (by omega) (by omega))
set_option maxHeartbeats 4000000 in
set_option maxRecDepth 100000 in
theorem lc_buffed (C : LC p l s m co E bb Ln xs) {x aw af hs : Nat} {g F : Nat → Int32} {cy : Cy} {H : Heap} {locs : List Loc} (hW : CW E x cy [aw, af] H) (hI_aw : iA E aw 3 g H) (hI_af : iA E af hs F H) (hne_aw_af : aw ≠ af) (hA_aw : bA E aw) (hA_af : bA E af) {k : Nat} (G : GI cy g hs F k) (hs3 : 3 ≤ hs) (hk : k < 58) (hS : va_S (bA E) s.heap H locs) {cells slots : Nat} (hcs : cells ≤ 1000 ∧ slots ≤ 100000) (vx vy : Int32) {hh ww : Nat} (hhh : hh < hs) (hww : ww < 3) (kk : ∀ (H1 : Heap) (locs1 : List Loc) (c2 : Cy) (F2 : Nat → Int32) (ls1 : Array Slot), CW E x c2 [aw, af] H1 → iA E aw 3 g H1 → iA E af hs F2 H1 → GI c2 g hs F2 (k + 1) → va_S (bA E) s.heap H1 locs1 → lv_has ls1 22 [(0, .ref bb), (1, .ref x), (2, .ref aw), (3, .int (nI hs)), (4, .ref af), (5, .int (nI k))] → W p l e room_1 s m #[Value.ref bb] below meth co H1 locs1 (cells + 2) (slots + 211) Q (F0 m 882 ls1 [])) {ls : Array Slot} (hl : lv_has ls 22 [(0, .ref bb), (1, .ref x), (2, .ref aw), (3, .int (nI hs)), (4, .ref af), (5, .int (nI k)), (6, .int vx), (7, .int vy), (8, .int (nI hh)), (9, .int (nI ww)), (10, .int (nI (cy.R 10 2))), (11, .int (cy.I 0 0))]) : W p l e room_1 s m #[Value.ref bb] below meth co H locs cells slots Q (F0 m 430 ls []) := by
  obtain ⟨hx, hb, hml, hown, hC, hXs, hbl, hE0, hst, hLn⟩ := C
  have hAb : ∀ q, bA E q → bA E q := fun _ h => h
  have hbA : ¬ bA E bb := fun z => absurd hbl (Nat.not_lt.mpr (by rw [← hE0]; exact z))
  have wf := hW.wf
  have hw3 := G.nw
  have hw1 := G.nw1
  have hwh := G.nh
  have hwh1 := G.nh1
  have hwl := G.nl
  have hwl6 := wf.nl
  have hwh8 := wf.nh
  have hnt := wf.nt
  have hti := G.ti
  have hne_af_aw : af ≠ aw := Ne.symm hne_aw_af
  have hwd := wf.wd (show ww < cy.R 11 0 by omega)
  refine lv_aload_n hx hb dL_law_430 rfl (lv_at hl 1 rfl) ?_
  refine lv_iload hx hb dL_law_431 (lv_at hl 9 rfl) ?_
  refine lv_aload_n hx hb dL_law_433 rfl (lv_at hl 2 rfl) ?_
  refine lv_iload hx hb dL_law_434 (lv_at hl 9 rfl) ?_
  refine li_ld hx hb hC hI_aw (j := ww) (by first | assumption | omega) (by omega) dL_law_436 ?_
  rw [show g ww = nI (cy.R 1 ww) from G.wi hww]
  refine lw_S (As := [.ref x, .int (nI ww), .int (nI (cy.R 1 ww))]) (rest := []) (v := bI true) hx hb hml hown hC hS hAb (mL_isBuffed l hst hW G ww hww) (fun q h => h.1) kB_L_48 ⟨rfl, rfl⟩ ⟨Nat.le_of_ble_eq_true rfl, Nat.le_of_ble_eq_true rfl⟩ rfl hl (Nat.le_of_ble_eq_true rfl) ⟨show cells + 2 ≤ (600074 : Nat) by omega, show slots + 22 ≤ (7301550 : Nat) by omega⟩ dL_law_437 (fun H locs hB hS hz hk9 => ?_)
  have hW : CW E x (bfC cy ww) [aw, af] H := hB
  have hI_aw := hI_aw.kept (hk9 aw hI_aw.lt (fun h => h.2 (by simp)))
  have hI_af := hI_af.kept (hk9 af hI_af.lt (fun h => h.2 (by simp)))
  refine lv_bif_ne (tgt := 882) hx hb dL_law_440 (by decide) (fun c_440 => ?_) (fun c_440 => ?_)
  · skip
    refine W.widen (k := cells + 2) (n := slots + 211) (by omega) (by omega) ?_
    exact kk _ _ _ _ _ hW hI_aw hI_af (bf_GI wf G hww) hS (lv_sub hl [0, 1, 2, 3, 4, 5] rfl)
  · skip
    exact absurd c_440 (by decide)
set_option maxHeartbeats 4000000 in
set_option maxRecDepth 100000 in
theorem lc_clear (C : LC p l s m co E bb Ln xs) {x aw af hs : Nat} {g F : Nat → Int32} {cy : Cy} {H : Heap} {locs : List Loc} (hW : CW E x cy [aw, af] H) (hI_aw : iA E aw 3 g H) (hI_af : iA E af hs F H) (hne_aw_af : aw ≠ af) (hA_aw : bA E aw) (hA_af : bA E af) {k : Nat} (G : GI cy g hs F k) (hs3 : 3 ≤ hs) (hk : k < 58) (hS : va_S (bA E) s.heap H locs) {cells slots : Nat} (hcs : cells ≤ 1000 ∧ slots ≤ 100000) (vx vy : Int32) {hh ww : Nat} (hhh : hh < hs) (hww : ww < 3) (kk : ∀ (H1 : Heap) (locs1 : List Loc) (c2 : Cy) (F2 : Nat → Int32) (ls1 : Array Slot), CW E x c2 [aw, af] H1 → iA E aw 3 g H1 → iA E af hs F2 H1 → GI c2 g hs F2 (k + 1) → va_S (bA E) s.heap H1 locs1 → lv_has ls1 22 [(0, .ref bb), (1, .ref x), (2, .ref aw), (3, .int (nI hs)), (4, .ref af), (5, .int (nI k))] → W p l e room_1 s m #[Value.ref bb] below meth co H1 locs1 (cells + 2) (slots + 211) Q (F0 m 882 ls1 [])) {ls : Array Slot} (hl : lv_has ls 22 [(0, .ref bb), (1, .ref x), (2, .ref aw), (3, .int (nI hs)), (4, .ref af), (5, .int (nI k)), (6, .int vx), (7, .int vy), (8, .int (nI hh)), (9, .int (nI ww)), (10, .int (nI (cy.R 10 2))), (11, .int (cy.I 0 0))]) : W p l e room_1 s m #[Value.ref bb] below meth co H locs cells slots Q (F0 m 445 ls []) := by
  obtain ⟨hx, hb, hml, hown, hC, hXs, hbl, hE0, hst, hLn⟩ := C
  have hAb : ∀ q, bA E q → bA E q := fun _ h => h
  have hbA : ¬ bA E bb := fun z => absurd hbl (Nat.not_lt.mpr (by rw [← hE0]; exact z))
  have wf := hW.wf
  have hw3 := G.nw
  have hw1 := G.nw1
  have hwh := G.nh
  have hwh1 := G.nh1
  have hwl := G.nl
  have hwl6 := wf.nl
  have hwh8 := wf.nh
  have hnt := wf.nt
  have hti := G.ti
  have hne_af_aw : af ≠ aw := Ne.symm hne_aw_af
  have hwd := wf.wd (show ww < cy.R 11 0 by omega)
  refine lv_aload_n hx hb dL_law_445 rfl (lv_at hl 1 rfl) ?_
  refine lv_bipushN hx hb 9 dL_law_446 (by decide) ?_
  refine la_V (As := [.int (nI 9)]) (rest := []) (v := smI (cy.I 14) (cy.R 10 1)) hx hb hml hown hC hS hAb hW (fun ly L ad hX => RoI.cast ma9 (mX3_many_g l hX 9 (show 9 ≤ 11 by first | assumption | omega))) kV_L_29 ⟨rfl, rfl⟩ ⟨Nat.le_of_ble_eq_true rfl, Nat.le_of_ble_eq_true rfl⟩ rfl hl (Nat.le_of_ble_eq_true rfl) ⟨show cells ≤ (600074 : Nat) by omega, show slots ≤ (7301550 : Nat) by omega⟩ dL_law_448 ?_
  refine lv_istore (lv' := [(12, .int (smI (cy.I 14) (cy.R 10 1))), (0, .ref bb), (1, .ref x), (2, .ref aw), (3, .int (nI hs)), (4, .ref af), (5, .int (nI k)), (6, .int vx), (7, .int vy), (8, .int (nI hh)), (9, .int (nI ww)), (10, .int (nI (cy.R 10 2))), (11, .int (cy.I 0 0))]) hx hb dL_law_451 hl (by decide) rfl (fun ls hl => ?_)
  refine lv_iload hx hb dL_law_453 (lv_at hl 8 rfl) ?_
  refine lv_iconstN hx hb 5 dL_law_455 (by decide) ?_
  refine lv_ishr hx hb dL_law_456 ?_
  refine lv_iconstN hx hb 3 dL_law_457 (by decide) ?_
  refine ro_S (As := [.int (vy >>> (nI 5 &&& 31)), .int (nI 3)]) (rest := []) (v := nI (blN (vy >>> (nI 5 &&& 31)) 3)) hx hb hml hown hC hS hAb (mL_below l (vy >>> (nI 5 &&& 31)) 3 (by first | assumption | omega) (by omega)) kS_L_18 ⟨rfl, rfl⟩ ⟨Nat.le_of_ble_eq_true rfl, Nat.le_of_ble_eq_true rfl⟩ rfl hl (Nat.le_of_ble_eq_true rfl) ⟨show cells ≤ (600074 : Nat) by omega, show slots ≤ (7301550 : Nat) by omega⟩ dL_law_458 ?_
  have hb_1 : blN (vy >>> (nI 5 &&& 31)) 3 < 3 := blN_lt (by first | assumption | omega)
  refine lv_ifN_le (tgt := 468) hx hb dL_law_461 (by decide) (by omega) (fun c_461 => ?_) (fun c_461 => ?_)
  · skip
    refine lv_aload_n hx hb dL_law_468 rfl (lv_at hl 2 rfl) ?_
    refine lv_iload hx hb dL_law_469 (lv_at hl 10 rfl) ?_
    refine lu_V (c2 := clC cy ww) (As := [.int (nI ww)]) (rest := []) (v := clT cy ww (cy.R 1 ww)) hx hb hml hown hC hS hAb (fun q h => h.1) hW (fun ly L ad hX => mX3_clear_g l hX ww (show ww < cy.R 10 0 by first | assumption | omega)) kV_L_52 ⟨rfl, rfl⟩ ⟨Nat.le_of_ble_eq_true rfl, Nat.le_of_ble_eq_true rfl⟩ rfl hl (Nat.le_of_ble_eq_true rfl) ⟨show cells + 0 ≤ (600074 : Nat) by omega, show slots + 0 ≤ (7301550 : Nat) by omega⟩ dL_law_471 (fun H locs hW hS hz hk => ?_)
    have hI_aw := hI_aw.kept (hk aw (by simp))
    have hI_af := hI_af.kept (hk af (by simp))
    skip
    refine lv_istore (lv' := [(13, .int (clT cy ww (cy.R 1 ww))), (12, .int (smI (cy.I 14) (cy.R 10 1))), (0, .ref bb), (1, .ref x), (2, .ref aw), (3, .int (nI hs)), (4, .ref af), (5, .int (nI k)), (6, .int vx), (7, .int vy), (8, .int (nI hh)), (9, .int (nI ww)), (10, .int (nI (cy.R 10 2))), (11, .int (cy.I 0 0))]) hx hb dL_law_474 hl (by decide) rfl (fun ls hl => ?_)
    refine lv_aload_n hx hb dL_law_476 rfl (lv_at hl 3 rfl) ?_
    refine lv_bipushN hx hb 9 dL_law_477 (by decide) ?_
    refine la_V (As := [.int (nI 9)]) (rest := []) (v := smI (cy.I 14) (cy.R 10 1) + clT cy ww (cy.R 1 ww)) hx hb hml hown hC hS hAb hW (fun ly L ad hX => RoI.cast (ma9.trans (cl_9 wf G hww)) (mX3_many_g l hX 9 (show 9 ≤ 11 by first | assumption | omega))) kV_L_29 ⟨rfl, rfl⟩ ⟨Nat.le_of_ble_eq_true rfl, Nat.le_of_ble_eq_true rfl⟩ rfl hl (Nat.le_of_ble_eq_true rfl) ⟨show cells + 0 ≤ (600074 : Nat) by omega, show slots + 0 ≤ (7301550 : Nat) by omega⟩ dL_law_479 ?_
    refine lv_iload hx hb dL_law_482 (lv_at hl 1 rfl) ?_
    refine lv_iload hx hb dL_law_484 (lv_at hl 0 rfl) ?_
    refine lv_iadd hx hb dL_law_486 ?_
    refine lv_icmp_ne (tgt := 515) hx hb dL_law_487 (by decide) (fun c_487 => ?_) (fun c_487 => ?_)
    · skip
      exact absurd rfl c_487
    · skip
      refine lv_iload hx hb dL_law_490 (lv_at hl 0 rfl) ?_
      refine lv_if_le (tgt := 505) hx hb dL_law_492 (by decide) (fun c_492 => ?_) (fun c_492 => ?_)
      · skip
        have c_492 := Int32.not_lt.mpr c_492
        refine lv_aload_n hx hb dL_law_505 rfl (lv_at hl 3 rfl) ?_
        refine lv_iconstN hx hb 5 dL_law_506 (by decide) ?_
        refine la_V (As := [.int (nI 5)]) (rest := []) (v := cy.I 0 0) hx hb hml hown hC hS hAb hW (fun ly L ad hX => RoI.cast (ma5.trans cl_5) (mX3_many_g l hX 5 (show 5 ≤ 11 by first | assumption | omega))) kV_L_29 ⟨rfl, rfl⟩ ⟨Nat.le_of_ble_eq_true rfl, Nat.le_of_ble_eq_true rfl⟩ rfl hl (Nat.le_of_ble_eq_true rfl) ⟨show cells + 0 ≤ (600074 : Nat) by omega, show slots + 0 ≤ (7301550 : Nat) by omega⟩ dL_law_507 ?_
        refine lv_iload hx hb dL_law_510 (lv_at hl 13 rfl) ?_
        refine lv_icmp_eq (tgt := 882) hx hb dL_law_512 (by decide) (fun c_512 => ?_) (fun c_512 => ?_)
        · skip
          refine W.widen (k := cells + 2) (n := slots + 211) (by omega) (by omega) ?_
          exact kk _ _ _ _ _ hW hI_aw hI_af (cl_GI G ww) hS (lv_sub hl [2, 3, 4, 5, 6, 7] rfl)
        · skip
          exact absurd rfl c_512
      · skip
        have c_492 := Int32.not_le.mp c_492
        refine lv_aload_n hx hb dL_law_495 rfl (lv_at hl 3 rfl) ?_
        refine lv_iload hx hb dL_law_496 (lv_at hl 11 rfl) ?_
        refine lv_iconstN hx hb 4 dL_law_498 (by decide) ?_
        refine la_V (As := [.int (nI ww), .int (nI 4)]) (rest := []) (v := nI 0) hx hb hml hown hC hS hAb hW (fun ly L ad hX => RoI.cast (ow4.trans cl_4) (mX3_ofWall_g l hX ww 4 (show ww < (clC cy ww).R 10 0 by simp only [cl_R]; first | assumption | omega) (show 4 ≤ 6 by first | assumption | omega))) kV_L_42 ⟨rfl, rfl⟩ ⟨Nat.le_of_ble_eq_true rfl, Nat.le_of_ble_eq_true rfl⟩ rfl hl (Nat.le_of_ble_eq_true rfl) ⟨show cells + 0 ≤ (600074 : Nat) by omega, show slots + 0 ≤ (7301550 : Nat) by omega⟩ dL_law_499 ?_
        refine lv_ifN_ne (tgt := 515) hx hb dL_law_502 (by decide) (by omega) (fun c_502 => ?_) (fun c_502 => ?_)
        · skip
          exact absurd c_502 (by decide)
        · skip
          refine lv_aload_n hx hb dL_law_505 rfl (lv_at hl 3 rfl) ?_
          refine lv_iconstN hx hb 5 dL_law_506 (by decide) ?_
          refine la_V (As := [.int (nI 5)]) (rest := []) (v := cy.I 0 0) hx hb hml hown hC hS hAb hW (fun ly L ad hX => RoI.cast (ma5.trans cl_5) (mX3_many_g l hX 5 (show 5 ≤ 11 by first | assumption | omega))) kV_L_29 ⟨rfl, rfl⟩ ⟨Nat.le_of_ble_eq_true rfl, Nat.le_of_ble_eq_true rfl⟩ rfl hl (Nat.le_of_ble_eq_true rfl) ⟨show cells + 0 ≤ (600074 : Nat) by omega, show slots + 0 ≤ (7301550 : Nat) by omega⟩ dL_law_507 ?_
          refine lv_iload hx hb dL_law_510 (lv_at hl 13 rfl) ?_
          refine lv_icmp_eq (tgt := 882) hx hb dL_law_512 (by decide) (fun c_512 => ?_) (fun c_512 => ?_)
          · skip
            refine W.widen (k := cells + 2) (n := slots + 211) (by omega) (by omega) ?_
            exact kk _ _ _ _ _ hW hI_aw hI_af (cl_GI G ww) hS (lv_sub hl [2, 3, 4, 5, 6, 7] rfl)
          · skip
            exact absurd rfl c_512
  · skip
    refine lv_iconstN hx hb 0 dL_law_464 (by decide) ?_
    refine lv_goto (tgt := 474) hx hb dL_law_465 (by decide) ?_
    refine lv_istore (lv' := [(13, .int (nI 0)), (12, .int (smI (cy.I 14) (cy.R 10 1))), (0, .ref bb), (1, .ref x), (2, .ref aw), (3, .int (nI hs)), (4, .ref af), (5, .int (nI k)), (6, .int vx), (7, .int vy), (8, .int (nI hh)), (9, .int (nI ww)), (10, .int (nI (cy.R 10 2))), (11, .int (cy.I 0 0))]) hx hb dL_law_474 hl (by decide) rfl (fun ls hl => ?_)
    refine lv_aload_n hx hb dL_law_476 rfl (lv_at hl 3 rfl) ?_
    refine lv_bipushN hx hb 9 dL_law_477 (by decide) ?_
    refine la_V (As := [.int (nI 9)]) (rest := []) (v := smI (cy.I 14) (cy.R 10 1)) hx hb hml hown hC hS hAb hW (fun ly L ad hX => RoI.cast (ma9.trans rfl) (mX3_many_g l hX 9 (show 9 ≤ 11 by first | assumption | omega))) kV_L_29 ⟨rfl, rfl⟩ ⟨Nat.le_of_ble_eq_true rfl, Nat.le_of_ble_eq_true rfl⟩ rfl hl (Nat.le_of_ble_eq_true rfl) ⟨show cells ≤ (600074 : Nat) by omega, show slots ≤ (7301550 : Nat) by omega⟩ dL_law_479 ?_
    refine lv_iload hx hb dL_law_482 (lv_at hl 1 rfl) ?_
    refine lv_iload hx hb dL_law_484 (lv_at hl 0 rfl) ?_
    refine lv_iadd hx hb dL_law_486 ?_
    refine lv_icmp_ne (tgt := 515) hx hb dL_law_487 (by decide) (fun c_487 => ?_) (fun c_487 => ?_)
    · skip
      exact absurd (Int32.add_zero _).symm c_487
    · skip
      refine lv_iload hx hb dL_law_490 (lv_at hl 0 rfl) ?_
      refine lv_ifN_le (tgt := 505) hx hb dL_law_492 (by decide) (by omega) (fun c_492 => ?_) (fun c_492 => ?_)
      · skip
        refine lv_aload_n hx hb dL_law_505 rfl (lv_at hl 3 rfl) ?_
        refine lv_iconstN hx hb 5 dL_law_506 (by decide) ?_
        refine la_V (As := [.int (nI 5)]) (rest := []) (v := cy.I 0 0) hx hb hml hown hC hS hAb hW (fun ly L ad hX => RoI.cast (ma5.trans rfl) (mX3_many_g l hX 5 (show 5 ≤ 11 by first | assumption | omega))) kV_L_29 ⟨rfl, rfl⟩ ⟨Nat.le_of_ble_eq_true rfl, Nat.le_of_ble_eq_true rfl⟩ rfl hl (Nat.le_of_ble_eq_true rfl) ⟨show cells ≤ (600074 : Nat) by omega, show slots ≤ (7301550 : Nat) by omega⟩ dL_law_507 ?_
        refine lv_iload hx hb dL_law_510 (lv_at hl 13 rfl) ?_
        refine lv_icmp_eq (tgt := 882) hx hb dL_law_512 (by decide) (fun c_512 => ?_) (fun c_512 => ?_)
        · skip
          refine W.widen (k := cells + 2) (n := slots + 211) (by omega) (by omega) ?_
          exact kk _ _ _ _ _ hW hI_aw hI_af G.keep hS (lv_sub hl [2, 3, 4, 5, 6, 7] rfl)
        · skip
          exact absurd rfl c_512
      · skip
        omega
set_option maxHeartbeats 4000000 in
set_option maxRecDepth 100000 in
theorem lc_sell (C : LC p l s m co E bb Ln xs) {x aw af hs : Nat} {g F : Nat → Int32} {cy : Cy} {H : Heap} {locs : List Loc} (hW : CW E x cy [aw, af] H) (hI_aw : iA E aw 3 g H) (hI_af : iA E af hs F H) (hne_aw_af : aw ≠ af) (hA_aw : bA E aw) (hA_af : bA E af) {k : Nat} (G : GI cy g hs F k) (hs3 : 3 ≤ hs) (hk : k < 58) (hS : va_S (bA E) s.heap H locs) {cells slots : Nat} (hcs : cells ≤ 1000 ∧ slots ≤ 100000) (vx vy : Int32) {hh ww : Nat} (hhh : hh < hs) (hww : ww < 3) (kk : ∀ (H1 : Heap) (locs1 : List Loc) (c2 : Cy) (F2 : Nat → Int32) (ls1 : Array Slot), CW E x c2 [aw, af] H1 → iA E aw 3 g H1 → iA E af hs F2 H1 → GI c2 g hs F2 (k + 1) → va_S (bA E) s.heap H1 locs1 → lv_has ls1 22 [(0, .ref bb), (1, .ref x), (2, .ref aw), (3, .int (nI hs)), (4, .ref af), (5, .int (nI k))] → W p l e room_1 s m #[Value.ref bb] below meth co H1 locs1 (cells + 2) (slots + 211) Q (F0 m 882 ls1 [])) {ls : Array Slot} (hl : lv_has ls 22 [(0, .ref bb), (1, .ref x), (2, .ref aw), (3, .int (nI hs)), (4, .ref af), (5, .int (nI k)), (6, .int vx), (7, .int vy), (8, .int (nI hh)), (9, .int (nI ww)), (10, .int (nI (cy.R 10 2))), (11, .int (cy.I 0 0))]) : W p l e room_1 s m #[Value.ref bb] below meth co H locs cells slots Q (F0 m 517 ls []) := by
  obtain ⟨hx, hb, hml, hown, hC, hXs, hbl, hE0, hst, hLn⟩ := C
  have hAb : ∀ q, bA E q → bA E q := fun _ h => h
  have hbA : ¬ bA E bb := fun z => absurd hbl (Nat.not_lt.mpr (by rw [← hE0]; exact z))
  have wf := hW.wf
  have hw3 := G.nw
  have hw1 := G.nw1
  have hwh := G.nh
  have hwh1 := G.nh1
  have hwl := G.nl
  have hwl6 := wf.nl
  have hwh8 := wf.nh
  have hnt := wf.nt
  have hti := G.ti
  have hne_af_aw : af ≠ aw := Ne.symm hne_aw_af
  have hwd := wf.wd (show ww < cy.R 11 0 by omega)
  refine lv_iload hx hb dL_law_517 (lv_at hl 10 rfl) ?_
  refine lv_ifN_eq (tgt := 882) hx hb dL_law_519 (by decide) (by omega) (fun c_519 => ?_) (fun c_519 => ?_)
  · skip
    refine W.widen (k := cells + 2) (n := slots + 211) (by omega) (by omega) ?_
    exact kk _ _ _ _ _ hW hI_aw hI_af G.keep hS (lv_sub hl [0, 1, 2, 3, 4, 5] rfl)
  · skip
    refine lv_aload_n hx hb dL_law_522 rfl (lv_at hl 1 rfl) ?_
    refine lv_iload hx hb dL_law_523 (lv_at hl 6 rfl) ?_
    refine lv_iconstN hx hb 4 dL_law_525 (by decide) ?_
    refine lv_ishr hx hb dL_law_526 ?_
    refine lv_iload hx hb dL_law_527 (lv_at hl 10 rfl) ?_
    refine ro_S (As := [.int (vx >>> (nI 4 &&& 31)), .int (nI (cy.R 10 2))]) (rest := [.ref x]) (v := nI (blN (vx >>> (nI 4 &&& 31)) (cy.R 10 2))) hx hb hml hown hC hS hAb (mL_below l (vx >>> (nI 4 &&& 31)) (cy.R 10 2) (by first | assumption | omega) (by omega)) kS_L_18 ⟨rfl, rfl⟩ ⟨Nat.le_of_ble_eq_true rfl, Nat.le_of_ble_eq_true rfl⟩ rfl hl (Nat.le_of_ble_eq_true rfl) ⟨show cells ≤ (600074 : Nat) by omega, show slots ≤ (7301550 : Nat) by omega⟩ dL_law_529 ?_
    have hb_1 : blN (vx >>> (nI 4 &&& 31)) (cy.R 10 2) < cy.R 10 2 := blN_lt (by first | assumption | omega)
    refine lv_bipushN hx hb 9 dL_law_532 (by decide) ?_
    refine la_V (As := [.int (nI (blN (vx >>> (nI 4 &&& 31)) (cy.R 10 2))), .int (nI 9)]) (rest := []) (v := nI (seenS cy (blN (vx >>> (nI 4 &&& 31)) (cy.R 10 2)))) hx hb hml hown hC hS hAb hW (fun ly L ad hX => RoI.cast ol9 (mX3_ofLayer_g l hX (blN (vx >>> (nI 4 &&& 31)) (cy.R 10 2)) 9 (show (blN (vx >>> (nI 4 &&& 31)) (cy.R 10 2)) < cy.R 10 2 by first | assumption | omega) (show 9 ≤ 13 by first | assumption | omega))) kV_L_55 ⟨rfl, rfl⟩ ⟨Nat.le_of_ble_eq_true rfl, Nat.le_of_ble_eq_true rfl⟩ rfl hl (Nat.le_of_ble_eq_true rfl) ⟨show cells ≤ (600074 : Nat) by omega, show slots ≤ (7301550 : Nat) by omega⟩ dL_law_534 ?_
    have hjl : blN (vx >>> (nI 4 &&& 31)) (cy.R 10 2) < cy.R 11 2 := by omega
    have hsl := seen_le wf hjl
    have hlw := wf.lw hjl
    have hld := wf.wd hlw
    refine lv_ifN_ne (tgt := 543) hx hb dL_law_537 (by decide) (by omega) (fun c_537 => ?_) (fun c_537 => ?_)
    · skip
      refine lv_iload hx hb dL_law_543 (lv_at hl 6 rfl) ?_
      refine lv_iconstN hx hb 4 dL_law_545 (by decide) ?_
      refine lv_ishr hx hb dL_law_546 ?_
      refine lv_iload hx hb dL_law_547 (lv_at hl 10 rfl) ?_
      refine ro_S (As := [.int (vx >>> (nI 4 &&& 31)), .int (nI (cy.R 10 2))]) (rest := []) (v := nI (blN (vx >>> (nI 4 &&& 31)) (cy.R 10 2))) hx hb hml hown hC hS hAb (mL_below l (vx >>> (nI 4 &&& 31)) (cy.R 10 2) (by first | assumption | omega) (by omega)) kS_L_18 ⟨rfl, rfl⟩ ⟨Nat.le_of_ble_eq_true rfl, Nat.le_of_ble_eq_true rfl⟩ rfl hl (Nat.le_of_ble_eq_true rfl) ⟨show cells ≤ (600074 : Nat) by omega, show slots ≤ (7301550 : Nat) by omega⟩ dL_law_549 ?_
      have hb_2 : blN (vx >>> (nI 4 &&& 31)) (cy.R 10 2) < cy.R 10 2 := blN_lt (by first | assumption | omega)
      refine lv_istore (lv' := [(14, .int (nI (blN (vx >>> (nI 4 &&& 31)) (cy.R 10 2)))), (0, .ref bb), (1, .ref x), (2, .ref aw), (3, .int (nI hs)), (4, .ref af), (5, .int (nI k)), (6, .int vx), (7, .int vy), (8, .int (nI hh)), (9, .int (nI ww)), (10, .int (nI (cy.R 10 2))), (11, .int (cy.I 0 0))]) hx hb dL_law_552 hl (by decide) rfl (fun ls hl => ?_)
      refine lv_aload_n hx hb dL_law_554 rfl (lv_at hl 2 rfl) ?_
      refine lv_iload hx hb dL_law_555 (lv_at hl 0 rfl) ?_
      refine lv_bipushN hx hb 12 dL_law_557 (by decide) ?_
      refine la_V (As := [.int (nI (blN (vx >>> (nI 4 &&& 31)) (cy.R 10 2))), .int (nI 12)]) (rest := []) (v := prS cy (blN (vx >>> (nI 4 &&& 31)) (cy.R 10 2))) hx hb hml hown hC hS hAb hW (fun ly L ad hX => RoI.cast ol12 (mX3_ofLayer_g l hX (blN (vx >>> (nI 4 &&& 31)) (cy.R 10 2)) 12 (show (blN (vx >>> (nI 4 &&& 31)) (cy.R 10 2)) < cy.R 10 2 by first | assumption | omega) (show 12 ≤ 13 by first | assumption | omega))) kV_L_55 ⟨rfl, rfl⟩ ⟨Nat.le_of_ble_eq_true rfl, Nat.le_of_ble_eq_true rfl⟩ rfl hl (Nat.le_of_ble_eq_true rfl) ⟨show cells ≤ (600074 : Nat) by omega, show slots ≤ (7301550 : Nat) by omega⟩ dL_law_559 ?_
      refine lv_istore (lv' := [(15, .int (prS cy (blN (vx >>> (nI 4 &&& 31)) (cy.R 10 2)))), (14, .int (nI (blN (vx >>> (nI 4 &&& 31)) (cy.R 10 2)))), (0, .ref bb), (1, .ref x), (2, .ref aw), (3, .int (nI hs)), (4, .ref af), (5, .int (nI k)), (6, .int vx), (7, .int vy), (8, .int (nI hh)), (9, .int (nI ww)), (10, .int (nI (cy.R 10 2))), (11, .int (cy.I 0 0))]) hx hb dL_law_562 hl (by decide) rfl (fun ls hl => ?_)
      refine lv_aload_n hx hb dL_law_564 rfl (lv_at hl 3 rfl) ?_
      refine lv_bipushN hx hb 10 dL_law_565 (by decide) ?_
      refine la_V (As := [.int (nI 10)]) (rest := []) (v := cy.I 1 0) hx hb hml hown hC hS hAb hW (fun ly L ad hX => RoI.cast ma10 (mX3_many_g l hX 10 (show 10 ≤ 11 by first | assumption | omega))) kV_L_29 ⟨rfl, rfl⟩ ⟨Nat.le_of_ble_eq_true rfl, Nat.le_of_ble_eq_true rfl⟩ rfl hl (Nat.le_of_ble_eq_true rfl) ⟨show cells ≤ (600074 : Nat) by omega, show slots ≤ (7301550 : Nat) by omega⟩ dL_law_567 ?_
      refine lv_istore (lv' := [(16, .int (cy.I 1 0)), (15, .int (prS cy (blN (vx >>> (nI 4 &&& 31)) (cy.R 10 2)))), (14, .int (nI (blN (vx >>> (nI 4 &&& 31)) (cy.R 10 2)))), (0, .ref bb), (1, .ref x), (2, .ref aw), (3, .int (nI hs)), (4, .ref af), (5, .int (nI k)), (6, .int vx), (7, .int vy), (8, .int (nI hh)), (9, .int (nI ww)), (10, .int (nI (cy.R 10 2))), (11, .int (cy.I 0 0))]) hx hb dL_law_570 hl (by decide) rfl (fun ls hl => ?_)
      refine lv_aload_n hx hb dL_law_572 rfl (lv_at hl 4 rfl) ?_
      refine lv_aload_n hx hb dL_law_573 rfl (lv_at hl 4 rfl) ?_
      refine lv_iload hx hb dL_law_574 (lv_at hl 2 rfl) ?_
      refine lv_iconstN hx hb 1 dL_law_576 (by decide) ?_
      refine la_V (As := [.int (nI (blN (vx >>> (nI 4 &&& 31)) (cy.R 10 2))), .int (nI 1)]) (rest := [.ref x]) (v := nI (cy.R 6 (blN (vx >>> (nI 4 &&& 31)) (cy.R 10 2)))) hx hb hml hown hC hS hAb hW (fun ly L ad hX => RoI.cast ol1 (mX3_ofLayer_g l hX (blN (vx >>> (nI 4 &&& 31)) (cy.R 10 2)) 1 (show (blN (vx >>> (nI 4 &&& 31)) (cy.R 10 2)) < cy.R 10 2 by first | assumption | omega) (show 1 ≤ 13 by first | assumption | omega))) kV_L_55 ⟨rfl, rfl⟩ ⟨Nat.le_of_ble_eq_true rfl, Nat.le_of_ble_eq_true rfl⟩ rfl hl (Nat.le_of_ble_eq_true rfl) ⟨show cells ≤ (600074 : Nat) by omega, show slots ≤ (7301550 : Nat) by omega⟩ dL_law_577 ?_
      refine lv_iconstN hx hb 4 dL_law_580 (by decide) ?_
      refine la_V (As := [.int (nI (cy.R 6 (blN (vx >>> (nI 4 &&& 31)) (cy.R 10 2)))), .int (nI 4)]) (rest := []) (v := nI (cntN (pntB cy (cy.R 6 (blN (vx >>> (nI 4 &&& 31)) (cy.R 10 2)))) (cy.R 1 (cy.R 6 (blN (vx >>> (nI 4 &&& 31)) (cy.R 10 2)))))) hx hb hml hown hC hS hAb hW (fun ly L ad hX => RoI.cast ow4 (mX3_ofWall_g l hX (cy.R 6 (blN (vx >>> (nI 4 &&& 31)) (cy.R 10 2))) 4 (show (cy.R 6 (blN (vx >>> (nI 4 &&& 31)) (cy.R 10 2))) < cy.R 10 0 by first | assumption | omega) (show 4 ≤ 6 by first | assumption | omega))) kV_L_42 ⟨rfl, rfl⟩ ⟨Nat.le_of_ble_eq_true rfl, Nat.le_of_ble_eq_true rfl⟩ rfl hl (Nat.le_of_ble_eq_true rfl) ⟨show cells ≤ (600074 : Nat) by omega, show slots ≤ (7301550 : Nat) by omega⟩ dL_law_581 ?_
      refine lv_aload_n hx hb dL_law_584 rfl (lv_at hl 4 rfl) ?_
      refine lv_iload hx hb dL_law_585 (lv_at hl 2 rfl) ?_
      refine lv_bipushN hx hb 9 dL_law_587 (by decide) ?_
      refine la_V (As := [.int (nI (blN (vx >>> (nI 4 &&& 31)) (cy.R 10 2))), .int (nI 9)]) (rest := [.int (nI (cntN (pntB cy (cy.R 6 (blN (vx >>> (nI 4 &&& 31)) (cy.R 10 2)))) (cy.R 1 (cy.R 6 (blN (vx >>> (nI 4 &&& 31)) (cy.R 10 2))))))]) (v := nI (seenS cy (blN (vx >>> (nI 4 &&& 31)) (cy.R 10 2)))) hx hb hml hown hC hS hAb hW (fun ly L ad hX => RoI.cast ol9 (mX3_ofLayer_g l hX (blN (vx >>> (nI 4 &&& 31)) (cy.R 10 2)) 9 (show (blN (vx >>> (nI 4 &&& 31)) (cy.R 10 2)) < cy.R 10 2 by first | assumption | omega) (show 9 ≤ 13 by first | assumption | omega))) kV_L_55 ⟨rfl, rfl⟩ ⟨Nat.le_of_ble_eq_true rfl, Nat.le_of_ble_eq_true rfl⟩ rfl hl (Nat.le_of_ble_eq_true rfl) ⟨show cells ≤ (600074 : Nat) by omega, show slots ≤ (7301550 : Nat) by omega⟩ dL_law_589 ?_
      refine lv_isub hx hb dL_law_592 ?_
      refine lv_istore (lv' := [(17, .int ((nI (cntN (pntB cy (cy.R 6 (blN (vx >>> (nI 4 &&& 31)) (cy.R 10 2)))) (cy.R 1 (cy.R 6 (blN (vx >>> (nI 4 &&& 31)) (cy.R 10 2)))))) - (nI (seenS cy (blN (vx >>> (nI 4 &&& 31)) (cy.R 10 2)))))), (16, .int (cy.I 1 0)), (15, .int (prS cy (blN (vx >>> (nI 4 &&& 31)) (cy.R 10 2)))), (14, .int (nI (blN (vx >>> (nI 4 &&& 31)) (cy.R 10 2)))), (0, .ref bb), (1, .ref x), (2, .ref aw), (3, .int (nI hs)), (4, .ref af), (5, .int (nI k)), (6, .int vx), (7, .int vy), (8, .int (nI hh)), (9, .int (nI ww)), (10, .int (nI (cy.R 10 2))), (11, .int (cy.I 0 0))]) hx hb dL_law_593 hl (by decide) rfl (fun ls hl => ?_)
      refine lv_aload_n hx hb dL_law_595 rfl (lv_at hl 5 rfl) ?_
      refine lv_iload hx hb dL_law_596 (lv_at hl 3 rfl) ?_
      refine lu_V (c2 := seC cy (blN (vx >>> (nI 4 &&& 31)) (cy.R 10 2))) (As := [.int (nI (blN (vx >>> (nI 4 &&& 31)) (cy.R 10 2)))]) (rest := []) (v := prS cy (blN (vx >>> (nI 4 &&& 31)) (cy.R 10 2))) hx hb hml hown hC hS hAb (fun q h => h.1) hW (fun ly L ad hX => mX3_sell_g l hX (blN (vx >>> (nI 4 &&& 31)) (cy.R 10 2)) (show (blN (vx >>> (nI 4 &&& 31)) (cy.R 10 2)) < cy.R 10 2 by first | assumption | omega) (decide_eq_true (by omega))) kV_L_58 ⟨rfl, rfl⟩ ⟨Nat.le_of_ble_eq_true rfl, Nat.le_of_ble_eq_true rfl⟩ rfl hl (Nat.le_of_ble_eq_true rfl) ⟨show cells + 0 ≤ (600074 : Nat) by omega, show slots + 0 ≤ (7301550 : Nat) by omega⟩ dL_law_598 (fun H locs hW hS hz hk => ?_)
      have hI_aw := hI_aw.kept (hk aw (by simp))
      have hI_af := hI_af.kept (hk af (by simp))
      skip
      refine lv_iload hx hb dL_law_601 (lv_at hl 2 rfl) ?_
      refine lv_icmp_ne (tgt := 648) hx hb dL_law_603 (by decide) (fun c_603 => ?_) (fun c_603 => ?_)
      · skip
        exact absurd rfl c_603
      · skip
        refine lv_aload_n hx hb dL_law_606 rfl (lv_at hl 5 rfl) ?_
        refine lv_bipushN hx hb 10 dL_law_607 (by decide) ?_
        refine la_V (As := [.int (nI 10)]) (rest := []) (v := cy.I 1 0 + prS cy (blN (vx >>> (nI 4 &&& 31)) (cy.R 10 2))) hx hb hml hown hC hS hAb hW (fun ly L ad hX => RoI.cast (ma10.trans se_10) (mX3_many_g l hX 10 (show 10 ≤ 11 by first | assumption | omega))) kV_L_29 ⟨rfl, rfl⟩ ⟨Nat.le_of_ble_eq_true rfl, Nat.le_of_ble_eq_true rfl⟩ rfl hl (Nat.le_of_ble_eq_true rfl) ⟨show cells + 0 ≤ (600074 : Nat) by omega, show slots + 0 ≤ (7301550 : Nat) by omega⟩ dL_law_609 ?_
        refine lv_iload hx hb dL_law_612 (lv_at hl 1 rfl) ?_
        refine lv_iload hx hb dL_law_614 (lv_at hl 2 rfl) ?_
        refine lv_iadd hx hb dL_law_616 ?_
        refine lv_icmp_ne (tgt := 648) hx hb dL_law_617 (by decide) (fun c_617 => ?_) (fun c_617 => ?_)
        · skip
          exact absurd rfl c_617
        · skip
          refine lv_aload_n hx hb dL_law_620 rfl (lv_at hl 5 rfl) ?_
          refine lv_iload hx hb dL_law_621 (lv_at hl 3 rfl) ?_
          refine lv_bipushN hx hb 9 dL_law_623 (by decide) ?_
          refine la_V (As := [.int (nI (blN (vx >>> (nI 4 &&& 31)) (cy.R 10 2))), .int (nI 9)]) (rest := []) (v := nI 0) hx hb hml hown hC hS hAb hW (fun ly L ad hX => RoI.cast (ol9.trans se_9) (mX3_ofLayer_g l hX (blN (vx >>> (nI 4 &&& 31)) (cy.R 10 2)) 9 (show (blN (vx >>> (nI 4 &&& 31)) (cy.R 10 2)) < (seC cy (blN (vx >>> (nI 4 &&& 31)) (cy.R 10 2))).R 10 2 by simp only [se_R]; first | assumption | omega) (show 9 ≤ 13 by first | assumption | omega))) kV_L_55 ⟨rfl, rfl⟩ ⟨Nat.le_of_ble_eq_true rfl, Nat.le_of_ble_eq_true rfl⟩ rfl hl (Nat.le_of_ble_eq_true rfl) ⟨show cells + 0 ≤ (600074 : Nat) by omega, show slots + 0 ≤ (7301550 : Nat) by omega⟩ dL_law_625 ?_
          refine lv_ifN_ne (tgt := 648) hx hb dL_law_628 (by decide) (by omega) (fun c_628 => ?_) (fun c_628 => ?_)
          · skip
            exact absurd c_628 (by decide)
          · skip
            refine lv_aload_n hx hb dL_law_631 rfl (lv_at hl 5 rfl) ?_
            refine lv_aload_n hx hb dL_law_632 rfl (lv_at hl 5 rfl) ?_
            refine lv_iload hx hb dL_law_633 (lv_at hl 3 rfl) ?_
            refine lv_iconstN hx hb 1 dL_law_635 (by decide) ?_
            refine la_V (As := [.int (nI (blN (vx >>> (nI 4 &&& 31)) (cy.R 10 2))), .int (nI 1)]) (rest := [.ref x]) (v := nI (cy.R 6 (blN (vx >>> (nI 4 &&& 31)) (cy.R 10 2)))) hx hb hml hown hC hS hAb hW (fun ly L ad hX => RoI.cast (ol1.trans (by rw [se_R])) (mX3_ofLayer_g l hX (blN (vx >>> (nI 4 &&& 31)) (cy.R 10 2)) 1 (show (blN (vx >>> (nI 4 &&& 31)) (cy.R 10 2)) < (seC cy (blN (vx >>> (nI 4 &&& 31)) (cy.R 10 2))).R 10 2 by simp only [se_R]; first | assumption | omega) (show 1 ≤ 13 by first | assumption | omega))) kV_L_55 ⟨rfl, rfl⟩ ⟨Nat.le_of_ble_eq_true rfl, Nat.le_of_ble_eq_true rfl⟩ rfl hl (Nat.le_of_ble_eq_true rfl) ⟨show cells + 0 ≤ (600074 : Nat) by omega, show slots + 0 ≤ (7301550 : Nat) by omega⟩ dL_law_636 ?_
            refine lv_iconstN hx hb 4 dL_law_639 (by decide) ?_
            refine la_V (As := [.int (nI (cy.R 6 (blN (vx >>> (nI 4 &&& 31)) (cy.R 10 2)))), .int (nI 4)]) (rest := []) (v := nI (cntN (pntB cy (cy.R 6 (blN (vx >>> (nI 4 &&& 31)) (cy.R 10 2)))) (cy.R 1 (cy.R 6 (blN (vx >>> (nI 4 &&& 31)) (cy.R 10 2))))) - nI (seenS cy (blN (vx >>> (nI 4 &&& 31)) (cy.R 10 2)))) hx hb hml hown hC hS hAb hW (fun ly L ad hX => RoI.cast (ow4.trans (se_4 wf hjl)) (mX3_ofWall_g l hX (cy.R 6 (blN (vx >>> (nI 4 &&& 31)) (cy.R 10 2))) 4 (show (cy.R 6 (blN (vx >>> (nI 4 &&& 31)) (cy.R 10 2))) < (seC cy (blN (vx >>> (nI 4 &&& 31)) (cy.R 10 2))).R 10 0 by simp only [se_R]; first | assumption | omega) (show 4 ≤ 6 by first | assumption | omega))) kV_L_42 ⟨rfl, rfl⟩ ⟨Nat.le_of_ble_eq_true rfl, Nat.le_of_ble_eq_true rfl⟩ rfl hl (Nat.le_of_ble_eq_true rfl) ⟨show cells + 0 ≤ (600074 : Nat) by omega, show slots + 0 ≤ (7301550 : Nat) by omega⟩ dL_law_640 ?_
            refine lv_iload hx hb dL_law_643 (lv_at hl 0 rfl) ?_
            refine lv_icmp_eq (tgt := 882) hx hb dL_law_645 (by decide) (fun c_645 => ?_) (fun c_645 => ?_)
            · skip
              refine W.widen (k := cells + 2) (n := slots + 211) (by omega) (by omega) ?_
              exact kk _ _ _ _ _ hW hI_aw hI_af (se_GI G _) hS (lv_sub hl [4, 5, 6, 7, 8, 9] rfl)
            · skip
              exact absurd rfl c_645
    · skip
      refine lv_goto (tgt := 882) hx hb dL_law_540 (by decide) ?_
      refine W.widen (k := cells + 2) (n := slots + 211) (by omega) (by omega) ?_
      exact kk _ _ _ _ _ hW hI_aw hI_af G.keep hS (lv_sub hl [0, 1, 2, 3, 4, 5] rfl)
set_option maxHeartbeats 4000000 in
set_option maxRecDepth 100000 in
theorem lc_remember (C : LC p l s m co E bb Ln xs) {x aw af hs : Nat} {g F : Nat → Int32} {cy : Cy} {H : Heap} {locs : List Loc} (hW : CW E x cy [aw, af] H) (hI_aw : iA E aw 3 g H) (hI_af : iA E af hs F H) (hne_aw_af : aw ≠ af) (hA_aw : bA E aw) (hA_af : bA E af) {k : Nat} (G : GI cy g hs F k) (hs3 : 3 ≤ hs) (hk : k < 58) (hS : va_S (bA E) s.heap H locs) {cells slots : Nat} (hcs : cells ≤ 1000 ∧ slots ≤ 100000) (vx vy : Int32) {hh ww : Nat} (hhh : hh < hs) (hww : ww < 3) (kk : ∀ (H1 : Heap) (locs1 : List Loc) (c2 : Cy) (F2 : Nat → Int32) (ls1 : Array Slot), CW E x c2 [aw, af] H1 → iA E aw 3 g H1 → iA E af hs F2 H1 → GI c2 g hs F2 (k + 1) → va_S (bA E) s.heap H1 locs1 → lv_has ls1 22 [(0, .ref bb), (1, .ref x), (2, .ref aw), (3, .int (nI hs)), (4, .ref af), (5, .int (nI k))] → W p l e room_1 s m #[Value.ref bb] below meth co H1 locs1 (cells + 2) (slots + 211) Q (F0 m 882 ls1 [])) {ls : Array Slot} (hl : lv_has ls 22 [(0, .ref bb), (1, .ref x), (2, .ref aw), (3, .int (nI hs)), (4, .ref af), (5, .int (nI k)), (6, .int vx), (7, .int vy), (8, .int (nI hh)), (9, .int (nI ww)), (10, .int (nI (cy.R 10 2))), (11, .int (cy.I 0 0))]) : W p l e room_1 s m #[Value.ref bb] below meth co H locs cells slots Q (F0 m 650 ls []) := by
  obtain ⟨hx, hb, hml, hown, hC, hXs, hbl, hE0, hst, hLn⟩ := C
  have hAb : ∀ q, bA E q → bA E q := fun _ h => h
  have hbA : ¬ bA E bb := fun z => absurd hbl (Nat.not_lt.mpr (by rw [← hE0]; exact z))
  have wf := hW.wf
  have hw3 := G.nw
  have hw1 := G.nw1
  have hwh := G.nh
  have hwh1 := G.nh1
  have hwl := G.nl
  have hwl6 := wf.nl
  have hwh8 := wf.nh
  have hnt := wf.nt
  have hti := G.ti
  have hne_af_aw : af ≠ aw := Ne.symm hne_aw_af
  have hwd := wf.wd (show ww < cy.R 11 0 by omega)
  refine lv_iload hx hb dL_law_650 (lv_at hl 10 rfl) ?_
  refine lv_ifN_le (tgt := 882) hx hb dL_law_652 (by decide) (by omega) (fun c_652 => ?_) (fun c_652 => ?_)
  · skip
    refine W.widen (k := cells + 2) (n := slots + 211) (by omega) (by omega) ?_
    exact kk _ _ _ _ _ hW hI_aw hI_af G.keep hS (lv_sub hl [0, 1, 2, 3, 4, 5] rfl)
  · skip
    refine lv_aload_n hx hb dL_law_655 rfl (lv_at hl 1 rfl) ?_
    refine lv_iload hx hb dL_law_656 (lv_at hl 6 rfl) ?_
    refine lv_iconstN hx hb 4 dL_law_658 (by decide) ?_
    refine lv_ishr hx hb dL_law_659 ?_
    refine lv_iload hx hb dL_law_660 (lv_at hl 10 rfl) ?_
    refine ro_S (As := [.int (vx >>> (nI 4 &&& 31)), .int (nI (cy.R 10 2))]) (rest := [.ref x]) (v := nI (blN (vx >>> (nI 4 &&& 31)) (cy.R 10 2))) hx hb hml hown hC hS hAb (mL_below l (vx >>> (nI 4 &&& 31)) (cy.R 10 2) (by first | assumption | omega) (by omega)) kS_L_18 ⟨rfl, rfl⟩ ⟨Nat.le_of_ble_eq_true rfl, Nat.le_of_ble_eq_true rfl⟩ rfl hl (Nat.le_of_ble_eq_true rfl) ⟨show cells ≤ (600074 : Nat) by omega, show slots ≤ (7301550 : Nat) by omega⟩ dL_law_662 ?_
    have hb_1 : blN (vx >>> (nI 4 &&& 31)) (cy.R 10 2) < cy.R 10 2 := blN_lt (by first | assumption | omega)
    refine lu_V (c2 := reC cy (blN (vx >>> (nI 4 &&& 31)) (cy.R 10 2))) (As := [.int (nI (blN (vx >>> (nI 4 &&& 31)) (cy.R 10 2)))]) (rest := []) (v := bI (!cy.B 3 (blN (vx >>> (nI 4 &&& 31)) (cy.R 10 2)))) hx hb hml hown hC hS hAb (fun q h => h.1) hW (fun ly L ad hX => mX3_remember_g l hX (blN (vx >>> (nI 4 &&& 31)) (cy.R 10 2)) (show (blN (vx >>> (nI 4 &&& 31)) (cy.R 10 2)) < cy.R 10 2 by first | assumption | omega)) kV_L_61 ⟨rfl, rfl⟩ ⟨Nat.le_of_ble_eq_true rfl, Nat.le_of_ble_eq_true rfl⟩ rfl hl (Nat.le_of_ble_eq_true rfl) ⟨show cells + 0 ≤ (600074 : Nat) by omega, show slots + 0 ≤ (7301550 : Nat) by omega⟩ dL_law_665 (fun H locs hW hS hz hk => ?_)
    have hI_aw := hI_aw.kept (hk aw (by simp))
    have hI_af := hI_af.kept (hk af (by simp))
    skip
    refine lv_bif_eq (tgt := 882) hx hb dL_law_668 (by decide) (fun c_668 => ?_) (fun c_668 => ?_)
    · skip
      refine W.widen (k := cells + 2) (n := slots + 211) (by omega) (by omega) ?_
      exact kk _ _ _ _ _ hW hI_aw hI_af (rc_GI G) hS (lv_sub hl [0, 1, 2, 3, 4, 5] rfl)
    · skip
      refine lv_aload_n hx hb dL_law_671 rfl (lv_at hl 1 rfl) ?_
      refine lv_iload hx hb dL_law_672 (lv_at hl 6 rfl) ?_
      refine lv_iconstN hx hb 4 dL_law_674 (by decide) ?_
      refine lv_ishr hx hb dL_law_675 ?_
      refine lv_iload hx hb dL_law_676 (lv_at hl 10 rfl) ?_
      refine ro_S (As := [.int (vx >>> (nI 4 &&& 31)), .int (nI (cy.R 10 2))]) (rest := [.ref x]) (v := nI (blN (vx >>> (nI 4 &&& 31)) (cy.R 10 2))) hx hb hml hown hC hS hAb (mL_below l (vx >>> (nI 4 &&& 31)) (cy.R 10 2) (by first | assumption | omega) (by omega)) kS_L_18 ⟨rfl, rfl⟩ ⟨Nat.le_of_ble_eq_true rfl, Nat.le_of_ble_eq_true rfl⟩ rfl hl (Nat.le_of_ble_eq_true rfl) ⟨show cells + 0 ≤ (600074 : Nat) by omega, show slots + 0 ≤ (7301550 : Nat) by omega⟩ dL_law_678 ?_
      have hb_2 : blN (vx >>> (nI 4 &&& 31)) (cy.R 10 2) < cy.R 10 2 := blN_lt (by first | assumption | omega)
      refine lv_bipushN hx hb 8 dL_law_681 (by decide) ?_
      refine la_V (As := [.int (nI (blN (vx >>> (nI 4 &&& 31)) (cy.R 10 2))), .int (nI 8)]) (rest := []) (v := nI 1) hx hb hml hown hC hS hAb hW (fun ly L ad hX => RoI.cast (ol8.trans re_8) (mX3_ofLayer_g l hX (blN (vx >>> (nI 4 &&& 31)) (cy.R 10 2)) 8 (show (blN (vx >>> (nI 4 &&& 31)) (cy.R 10 2)) < (reC cy (blN (vx >>> (nI 4 &&& 31)) (cy.R 10 2))).R 10 2 by simp only [re_R]; first | assumption | omega) (show 8 ≤ 13 by first | assumption | omega))) kV_L_55 ⟨rfl, rfl⟩ ⟨Nat.le_of_ble_eq_true rfl, Nat.le_of_ble_eq_true rfl⟩ rfl hl (Nat.le_of_ble_eq_true rfl) ⟨show cells + 0 ≤ (600074 : Nat) by omega, show slots + 0 ≤ (7301550 : Nat) by omega⟩ dL_law_683 ?_
      refine lv_iconstN hx hb 1 dL_law_686 (by decide) ?_
      refine lv_icmpN_eq (tgt := 882) hx hb dL_law_687 (by decide) (by omega) (by omega) (fun c_687 => ?_) (fun c_687 => ?_)
      · skip
        refine W.widen (k := cells + 2) (n := slots + 211) (by omega) (by omega) ?_
        exact kk _ _ _ _ _ hW hI_aw hI_af (rc_GI G) hS (lv_sub hl [0, 1, 2, 3, 4, 5] rfl)
      · skip
        exact absurd rfl c_687
set_option maxHeartbeats 4000000 in
set_option maxRecDepth 100000 in
theorem lc_pay (C : LC p l s m co E bb Ln xs) {x aw af hs : Nat} {g F : Nat → Int32} {cy : Cy} {H : Heap} {locs : List Loc} (hW : CW E x cy [aw, af] H) (hI_aw : iA E aw 3 g H) (hI_af : iA E af hs F H) (hne_aw_af : aw ≠ af) (hA_aw : bA E aw) (hA_af : bA E af) {k : Nat} (G : GI cy g hs F k) (hs3 : 3 ≤ hs) (hk : k < 58) (hS : va_S (bA E) s.heap H locs) {cells slots : Nat} (hcs : cells ≤ 1000 ∧ slots ≤ 100000) (vx vy : Int32) {hh ww : Nat} (hhh : hh < hs) (hww : ww < 3) (kk : ∀ (H1 : Heap) (locs1 : List Loc) (c2 : Cy) (F2 : Nat → Int32) (ls1 : Array Slot), CW E x c2 [aw, af] H1 → iA E aw 3 g H1 → iA E af hs F2 H1 → GI c2 g hs F2 (k + 1) → va_S (bA E) s.heap H1 locs1 → lv_has ls1 22 [(0, .ref bb), (1, .ref x), (2, .ref aw), (3, .int (nI hs)), (4, .ref af), (5, .int (nI k))] → W p l e room_1 s m #[Value.ref bb] below meth co H1 locs1 (cells + 2) (slots + 211) Q (F0 m 882 ls1 [])) {ls : Array Slot} (hl : lv_has ls 22 [(0, .ref bb), (1, .ref x), (2, .ref aw), (3, .int (nI hs)), (4, .ref af), (5, .int (nI k)), (6, .int vx), (7, .int vy), (8, .int (nI hh)), (9, .int (nI ww)), (10, .int (nI (cy.R 10 2))), (11, .int (cy.I 0 0))]) : W p l e room_1 s m #[Value.ref bb] below meth co H locs cells slots Q (F0 m 692 ls []) := by
  obtain ⟨hx, hb, hml, hown, hC, hXs, hbl, hE0, hst, hLn⟩ := C
  have hAb : ∀ q, bA E q → bA E q := fun _ h => h
  have hbA : ¬ bA E bb := fun z => absurd hbl (Nat.not_lt.mpr (by rw [← hE0]; exact z))
  have wf := hW.wf
  have hw3 := G.nw
  have hw1 := G.nw1
  have hwh := G.nh
  have hwh1 := G.nh1
  have hwl := G.nl
  have hwl6 := wf.nl
  have hwh8 := wf.nh
  have hnt := wf.nt
  have hti := G.ti
  have hne_af_aw : af ≠ aw := Ne.symm hne_aw_af
  have hwd := wf.wd (show ww < cy.R 11 0 by omega)
  refine lv_aload_n hx hb dL_law_692 rfl (lv_at hl 1 rfl) ?_
  refine lv_iload hx hb dL_law_693 (lv_at hl 8 rfl) ?_
  refine lu_V (c2 := paC cy hh) (As := [.int (nI hh)]) (rest := []) (v := cy.I 11 hh) hx hb hml hown hC hS hAb (fun q h => h.1) hW (fun ly L ad hX => mX3_pay_g l hX hh (show hh < cy.R 10 1 by first | assumption | omega)) kV_L_65 ⟨rfl, rfl⟩ ⟨Nat.le_of_ble_eq_true rfl, Nat.le_of_ble_eq_true rfl⟩ rfl hl (Nat.le_of_ble_eq_true rfl) ⟨show cells + 0 ≤ (600074 : Nat) by omega, show slots + 0 ≤ (7301550 : Nat) by omega⟩ dL_law_695 (fun H locs hW hS hz hk => ?_)
  have hI_aw := hI_aw.kept (hk aw (by simp))
  have hI_af := hI_af.kept (hk af (by simp))
  skip
  refine lv_aload hx hb dL_law_698 (lv_at hl 4 rfl) ?_
  refine lv_iload hx hb dL_law_700 (lv_at hl 8 rfl) ?_
  refine li_ld hx hb hC hI_af (j := hh) (by first | assumption | omega) (by omega) dL_law_702 ?_
  rw [show F hh = cy.I 11 hh from (G.fi hhh).symm]
  refine lv_icmp_ne (tgt := 716) hx hb dL_law_703 (by decide) (fun c_703 => ?_) (fun c_703 => ?_)
  · skip
    exact absurd rfl c_703
  · skip
    refine lv_aload_n hx hb dL_law_706 rfl (lv_at hl 1 rfl) ?_
    refine lv_iload hx hb dL_law_707 (lv_at hl 8 rfl) ?_
    refine lv_iconstN hx hb 2 dL_law_709 (by decide) ?_
    refine la_V (As := [.int (nI hh), .int (nI 2)]) (rest := []) (v := nI 0) hx hb hml hown hC hS hAb hW (fun ly L ad hX => RoI.cast (oh2.trans pa_2) (mX3_ofHand_g l hX hh 2 (show hh < (paC cy hh).R 10 1 by simp only [pa_R]; first | assumption | omega) (show 2 ≤ 10 by first | assumption | omega))) kV_L_68 ⟨rfl, rfl⟩ ⟨Nat.le_of_ble_eq_true rfl, Nat.le_of_ble_eq_true rfl⟩ rfl hl (Nat.le_of_ble_eq_true rfl) ⟨show cells + 0 ≤ (600074 : Nat) by omega, show slots + 0 ≤ (7301550 : Nat) by omega⟩ dL_law_710 ?_
    refine lv_ifN_eq (tgt := 718) hx hb dL_law_713 (by decide) (by omega) (fun c_713 => ?_) (fun c_713 => ?_)
    · skip
      refine lv_aload hx hb dL_law_718 (lv_at hl 4 rfl) ?_
      refine lv_iload hx hb dL_law_720 (lv_at hl 8 rfl) ?_
      refine lv_iconstN hx hb 0 dL_law_722 (by decide) ?_
      refine li_st (v := nI 0) hx hb hC hI_af hW hS hA_af (by simp) (j := hh) (by first | assumption | omega) (by omega) dL_law_723 (fun H locs hI_af hW hS hz hk => ?_)
      have hI_aw := hI_aw.kept (hk aw hne_aw_af)
      refine lv_goto (tgt := 882) hx hb dL_law_724 (by decide) ?_
      refine W.widen (k := cells + 2) (n := slots + 211) (by omega) (by omega) ?_
      exact kk _ _ _ _ _ hW hI_aw hI_af (pc_GI G) hS (lv_sub hl [0, 1, 2, 3, 4, 5] rfl)
    · skip
      exact absurd c_713 (by decide)
set_option maxHeartbeats 4000000 in
set_option maxRecDepth 100000 in
theorem lc_pass (C : LC p l s m co E bb Ln xs) {x aw af hs : Nat} {g F : Nat → Int32} {cy : Cy} {H : Heap} {locs : List Loc} (hW : CW E x cy [aw, af] H) (hI_aw : iA E aw 3 g H) (hI_af : iA E af hs F H) (hne_aw_af : aw ≠ af) (hA_aw : bA E aw) (hA_af : bA E af) {k : Nat} (G : GI cy g hs F k) (hs3 : 3 ≤ hs) (hk : k < 58) (hS : va_S (bA E) s.heap H locs) {cells slots : Nat} (hcs : cells ≤ 1000 ∧ slots ≤ 100000) (vx vy : Int32) {hh ww : Nat} (hhh : hh < hs) (hww : ww < 3) (kk : ∀ (H1 : Heap) (locs1 : List Loc) (c2 : Cy) (F2 : Nat → Int32) (ls1 : Array Slot), CW E x c2 [aw, af] H1 → iA E aw 3 g H1 → iA E af hs F2 H1 → GI c2 g hs F2 (k + 1) → va_S (bA E) s.heap H1 locs1 → lv_has ls1 22 [(0, .ref bb), (1, .ref x), (2, .ref aw), (3, .int (nI hs)), (4, .ref af), (5, .int (nI k))] → W p l e room_1 s m #[Value.ref bb] below meth co H1 locs1 (cells + 2) (slots + 211) Q (F0 m 882 ls1 [])) {ls : Array Slot} (hl : lv_has ls 22 [(0, .ref bb), (1, .ref x), (2, .ref aw), (3, .int (nI hs)), (4, .ref af), (5, .int (nI k)), (6, .int vx), (7, .int vy), (8, .int (nI hh)), (9, .int (nI ww)), (10, .int (nI (cy.R 10 2))), (11, .int (cy.I 0 0))]) : W p l e room_1 s m #[Value.ref bb] below meth co H locs cells slots Q (F0 m 727 ls []) := by
  obtain ⟨hx, hb, hml, hown, hC, hXs, hbl, hE0, hst, hLn⟩ := C
  have hAb : ∀ q, bA E q → bA E q := fun _ h => h
  have hbA : ¬ bA E bb := fun z => absurd hbl (Nat.not_lt.mpr (by rw [← hE0]; exact z))
  have wf := hW.wf
  have hw3 := G.nw
  have hw1 := G.nw1
  have hwh := G.nh
  have hwh1 := G.nh1
  have hwl := G.nl
  have hwl6 := wf.nl
  have hwh8 := wf.nh
  have hnt := wf.nt
  have hti := G.ti
  have hne_af_aw : af ≠ aw := Ne.symm hne_aw_af
  have hwd := wf.wd (show ww < cy.R 11 0 by omega)
  refine lv_iconstN hx hb 1 dL_law_727 (by decide) ?_
  refine lv_iload hx hb dL_law_728 (lv_at hl 6 rfl) ?_
  refine lv_iconstN hx hb 4 dL_law_730 (by decide) ?_
  refine lv_ishr hx hb dL_law_731 ?_
  refine lv_iconstN hx hb 4 dL_law_732 (by decide) ?_
  refine ro_S (As := [.int (vx >>> (nI 4 &&& 31)), .int (nI 4)]) (rest := [.int (nI 1)]) (v := nI (blN (vx >>> (nI 4 &&& 31)) 4)) hx hb hml hown hC hS hAb (mL_below l (vx >>> (nI 4 &&& 31)) 4 (by first | assumption | omega) (by omega)) kS_L_18 ⟨rfl, rfl⟩ ⟨Nat.le_of_ble_eq_true rfl, Nat.le_of_ble_eq_true rfl⟩ rfl hl (Nat.le_of_ble_eq_true rfl) ⟨show cells ≤ (600074 : Nat) by omega, show slots ≤ (7301550 : Nat) by omega⟩ dL_law_733 ?_
  have hb_1 : blN (vx >>> (nI 4 &&& 31)) 4 < 4 := blN_lt (by first | assumption | omega)
  refine lv_iaddN hx hb dL_law_736 ?_
  refine lv_istore (lv' := [(18, .int (nI (1 + (blN (vx >>> (nI 4 &&& 31)) 4)))), (0, .ref bb), (1, .ref x), (2, .ref aw), (3, .int (nI hs)), (4, .ref af), (5, .int (nI k)), (6, .int vx), (7, .int vy), (8, .int (nI hh)), (9, .int (nI ww)), (10, .int (nI (cy.R 10 2))), (11, .int (cy.I 0 0))]) hx hb dL_law_737 hl (by decide) rfl (fun ls hl => ?_)
  refine lv_aload_n hx hb dL_law_739 rfl (lv_at hl 2 rfl) ?_
  refine lv_iconstN hx hb 0 dL_law_740 (by decide) ?_
  refine lv_iconstN hx hb 4 dL_law_741 (by decide) ?_
  refine la_V (As := [.int (nI 0), .int (nI 4)]) (rest := []) (v := nI (cntN (pntB cy 0) (cy.R 1 0))) hx hb hml hown hC hS hAb hW (fun ly L ad hX => RoI.cast ow4 (mX3_ofWall_g l hX 0 4 (show 0 < cy.R 10 0 by first | assumption | omega) (show 4 ≤ 6 by first | assumption | omega))) kV_L_42 ⟨rfl, rfl⟩ ⟨Nat.le_of_ble_eq_true rfl, Nat.le_of_ble_eq_true rfl⟩ rfl hl (Nat.le_of_ble_eq_true rfl) ⟨show cells ≤ (600074 : Nat) by omega, show slots ≤ (7301550 : Nat) by omega⟩ dL_law_742 ?_
  refine lv_aload_n hx hb dL_law_745 rfl (lv_at hl 2 rfl) ?_
  refine lv_iconstN hx hb 1 dL_law_746 (by decide) ?_
  refine lv_iconstN hx hb 4 dL_law_747 (by decide) ?_
  refine la_V (As := [.int (nI 1), .int (nI 4)]) (rest := [.int (nI (cntN (pntB cy 0) (cy.R 1 0)))]) (v := nI (cntN (pntB cy 1) (cy.R 1 1))) hx hb hml hown hC hS hAb hW (fun ly L ad hX => RoI.cast ow4 (mX3_ofWall_g l hX 1 4 (show 1 < cy.R 10 0 by first | assumption | omega) (show 4 ≤ 6 by first | assumption | omega))) kV_L_42 ⟨rfl, rfl⟩ ⟨Nat.le_of_ble_eq_true rfl, Nat.le_of_ble_eq_true rfl⟩ rfl hl (Nat.le_of_ble_eq_true rfl) ⟨show cells ≤ (600074 : Nat) by omega, show slots ≤ (7301550 : Nat) by omega⟩ dL_law_748 ?_
  refine lv_iaddN hx hb dL_law_751 ?_
  refine lv_aload_n hx hb dL_law_752 rfl (lv_at hl 2 rfl) ?_
  refine lv_iconstN hx hb 2 dL_law_753 (by decide) ?_
  refine lv_iconstN hx hb 4 dL_law_754 (by decide) ?_
  refine la_V (As := [.int (nI 2), .int (nI 4)]) (rest := [.int (nI ((cntN (pntB cy 0) (cy.R 1 0)) + (cntN (pntB cy 1) (cy.R 1 1))))]) (v := nI (cntN (pntB cy 2) (cy.R 1 2))) hx hb hml hown hC hS hAb hW (fun ly L ad hX => RoI.cast ow4 (mX3_ofWall_g l hX 2 4 (show 2 < cy.R 10 0 by first | assumption | omega) (show 4 ≤ 6 by first | assumption | omega))) kV_L_42 ⟨rfl, rfl⟩ ⟨Nat.le_of_ble_eq_true rfl, Nat.le_of_ble_eq_true rfl⟩ rfl hl (Nat.le_of_ble_eq_true rfl) ⟨show cells ≤ (600074 : Nat) by omega, show slots ≤ (7301550 : Nat) by omega⟩ dL_law_755 ?_
  refine lv_iaddN hx hb dL_law_758 ?_
  refine lv_istore (lv' := [(19, .int (nI (((cntN (pntB cy 0) (cy.R 1 0)) + (cntN (pntB cy 1) (cy.R 1 1))) + (cntN (pntB cy 2) (cy.R 1 2))))), (18, .int (nI (1 + (blN (vx >>> (nI 4 &&& 31)) 4)))), (0, .ref bb), (1, .ref x), (2, .ref aw), (3, .int (nI hs)), (4, .ref af), (5, .int (nI k)), (6, .int vx), (7, .int vy), (8, .int (nI hh)), (9, .int (nI ww)), (10, .int (nI (cy.R 10 2))), (11, .int (cy.I 0 0))]) hx hb dL_law_759 hl (by decide) rfl (fun ls hl => ?_)
  refine lv_aload_n hx hb dL_law_761 rfl (lv_at hl 3 rfl) ?_
  refine lv_iload hx hb dL_law_762 (lv_at hl 1 rfl) ?_
  refine lu_V (c2 := ((niC cy (1 + blN (vx >>> (nI 4 &&& 31)) 4)).R, (niC cy (1 + blN (vx >>> (nI 4 &&& 31)) 4)).I, (niC cy (1 + blN (vx >>> (nI 4 &&& 31)) 4)).B, (niC cy (1 + blN (vx >>> (nI 4 &&& 31)) 4)).Wr, (niC cy (1 + blN (vx >>> (nI 4 &&& 31)) 4)).sh)) (As := [.int (nI (1 + (blN (vx >>> (nI 4 &&& 31)) 4)))]) (rest := []) (v := nI (smN (fun k => niN (niC cy k)) (1 + (blN (vx >>> (nI 4 &&& 31)) 4)))) hx hb hml hown hC hS hAb (fun q h => h.1) hW (fun ly L ad hX => mX3_pass_g l hX (1 + (blN (vx >>> (nI 4 &&& 31)) 4)) (show 1 ≤ (1 + (blN (vx >>> (nI 4 &&& 31)) 4)) by first | assumption | omega) (show (1 + (blN (vx >>> (nI 4 &&& 31)) 4)) ≤ 30 by first | assumption | omega) (show cy.R 0 0 + (1 + (blN (vx >>> (nI 4 &&& 31)) 4)) ≤ 400 by first | assumption | omega)) kV_L_71 ⟨rfl, rfl⟩ ⟨Nat.le_of_ble_eq_true rfl, Nat.le_of_ble_eq_true rfl⟩ rfl hl (Nat.le_of_ble_eq_true rfl) ⟨show cells + 0 ≤ (600074 : Nat) by omega, show slots + 0 ≤ (7301550 : Nat) by omega⟩ dL_law_764 (fun H locs hW hS hz hk => ?_)
  have hI_aw := hI_aw.kept (hk aw (by simp))
  have hI_af := hI_af.kept (hk af (by simp))
  rw [show (((niC cy (1 + blN (vx >>> (nI 4 &&& 31)) 4)).R, (niC cy (1 + blN (vx >>> (nI 4 &&& 31)) 4)).I, (niC cy (1 + blN (vx >>> (nI 4 &&& 31)) 4)).B, (niC cy (1 + blN (vx >>> (nI 4 &&& 31)) 4)).Wr, (niC cy (1 + blN (vx >>> (nI 4 &&& 31)) 4)).sh) : Cy) = niC cy (1 + blN (vx >>> (nI 4 &&& 31)) 4) from cy_eta _] at hW
  have G2 := nis_GI G (n := 1 + blN (vx >>> (nI 4 &&& 31)) 4) (by omega)
  have hq3 := G2.nw
  have hqh := G2.nh
  refine lv_istore (lv' := [(20, .int (nI (smN (fun k => niN (niC cy k)) (1 + (blN (vx >>> (nI 4 &&& 31)) 4))))), (19, .int (nI (((cntN (pntB cy 0) (cy.R 1 0)) + (cntN (pntB cy 1) (cy.R 1 1))) + (cntN (pntB cy 2) (cy.R 1 2))))), (18, .int (nI (1 + (blN (vx >>> (nI 4 &&& 31)) 4)))), (0, .ref bb), (1, .ref x), (2, .ref aw), (3, .int (nI hs)), (4, .ref af), (5, .int (nI k)), (6, .int vx), (7, .int vy), (8, .int (nI hh)), (9, .int (nI ww)), (10, .int (nI (cy.R 10 2))), (11, .int (cy.I 0 0))]) hx hb dL_law_767 hl (by decide) rfl (fun ls hl => ?_)
  refine lv_aload_n hx hb dL_law_769 rfl (lv_at hl 4 rfl) ?_
  refine lv_iconstN hx hb 5 dL_law_770 (by decide) ?_
  refine la_V (As := [.int (nI 5)]) (rest := []) (v := cy.I 0 0 + nI (5 * (1 + blN (vx >>> (nI 4 &&& 31)) 4))) hx hb hml hown hC hS hAb hW (fun ly L ad hX => RoI.cast (ma5.trans (nis_coin _)) (mX3_many_g l hX 5 (show 5 ≤ 11 by first | assumption | omega))) kV_L_29 ⟨rfl, rfl⟩ ⟨Nat.le_of_ble_eq_true rfl, Nat.le_of_ble_eq_true rfl⟩ rfl hl (Nat.le_of_ble_eq_true rfl) ⟨show cells + 0 ≤ (600074 : Nat) by omega, show slots + 0 ≤ (7301550 : Nat) by omega⟩ dL_law_771 ?_
  refine lv_iload hx hb dL_law_774 (lv_at hl 14 rfl) ?_
  refine lv_iconstN hx hb 5 dL_law_776 (by decide) ?_
  refine lv_iload hx hb dL_law_777 (lv_at hl 2 rfl) ?_
  refine lv_imulN hx hb dL_law_779 ?_
  refine lv_iadd hx hb dL_law_780 ?_
  refine lv_icmp_ne (tgt := 825) hx hb dL_law_781 (by decide) (fun c_781 => ?_) (fun c_781 => ?_)
  · skip
    exact absurd rfl c_781
  · skip
    refine lv_aload_n hx hb dL_law_784 rfl (lv_at hl 4 rfl) ?_
    refine lv_iconstN hx hb 0 dL_law_785 (by decide) ?_
    refine lv_iconstN hx hb 4 dL_law_786 (by decide) ?_
    refine la_V (As := [.int (nI 0), .int (nI 4)]) (rest := []) (v := nI (cntN (pntB (niC cy (1 + blN (vx >>> (nI 4 &&& 31)) 4)) 0) ((niC cy (1 + blN (vx >>> (nI 4 &&& 31)) 4)).R 1 0))) hx hb hml hown hC hS hAb hW (fun ly L ad hX => RoI.cast ow4 (mX3_ofWall_g l hX 0 4 (show 0 < (niC cy (1 + blN (vx >>> (nI 4 &&& 31)) 4)).R 10 0 by first | assumption | omega) (show 4 ≤ 6 by first | assumption | omega))) kV_L_42 ⟨rfl, rfl⟩ ⟨Nat.le_of_ble_eq_true rfl, Nat.le_of_ble_eq_true rfl⟩ rfl hl (Nat.le_of_ble_eq_true rfl) ⟨show cells + 0 ≤ (600074 : Nat) by omega, show slots + 0 ≤ (7301550 : Nat) by omega⟩ dL_law_787 ?_
    refine lv_aload_n hx hb dL_law_790 rfl (lv_at hl 4 rfl) ?_
    refine lv_iconstN hx hb 1 dL_law_791 (by decide) ?_
    refine lv_iconstN hx hb 4 dL_law_792 (by decide) ?_
    refine la_V (As := [.int (nI 1), .int (nI 4)]) (rest := [.int (nI (cntN (pntB (niC cy (1 + blN (vx >>> (nI 4 &&& 31)) 4)) 0) ((niC cy (1 + blN (vx >>> (nI 4 &&& 31)) 4)).R 1 0)))]) (v := nI (cntN (pntB (niC cy (1 + blN (vx >>> (nI 4 &&& 31)) 4)) 1) ((niC cy (1 + blN (vx >>> (nI 4 &&& 31)) 4)).R 1 1))) hx hb hml hown hC hS hAb hW (fun ly L ad hX => RoI.cast ow4 (mX3_ofWall_g l hX 1 4 (show 1 < (niC cy (1 + blN (vx >>> (nI 4 &&& 31)) 4)).R 10 0 by first | assumption | omega) (show 4 ≤ 6 by first | assumption | omega))) kV_L_42 ⟨rfl, rfl⟩ ⟨Nat.le_of_ble_eq_true rfl, Nat.le_of_ble_eq_true rfl⟩ rfl hl (Nat.le_of_ble_eq_true rfl) ⟨show cells + 0 ≤ (600074 : Nat) by omega, show slots + 0 ≤ (7301550 : Nat) by omega⟩ dL_law_793 ?_
    refine lv_iaddN hx hb dL_law_796 ?_
    refine lv_aload_n hx hb dL_law_797 rfl (lv_at hl 4 rfl) ?_
    refine lv_iconstN hx hb 2 dL_law_798 (by decide) ?_
    refine lv_iconstN hx hb 4 dL_law_799 (by decide) ?_
    refine la_V (As := [.int (nI 2), .int (nI 4)]) (rest := [.int (nI ((cntN (pntB (niC cy (1 + blN (vx >>> (nI 4 &&& 31)) 4)) 0) ((niC cy (1 + blN (vx >>> (nI 4 &&& 31)) 4)).R 1 0)) + (cntN (pntB (niC cy (1 + blN (vx >>> (nI 4 &&& 31)) 4)) 1) ((niC cy (1 + blN (vx >>> (nI 4 &&& 31)) 4)).R 1 1))))]) (v := nI (cntN (pntB (niC cy (1 + blN (vx >>> (nI 4 &&& 31)) 4)) 2) ((niC cy (1 + blN (vx >>> (nI 4 &&& 31)) 4)).R 1 2))) hx hb hml hown hC hS hAb hW (fun ly L ad hX => RoI.cast ow4 (mX3_ofWall_g l hX 2 4 (show 2 < (niC cy (1 + blN (vx >>> (nI 4 &&& 31)) 4)).R 10 0 by first | assumption | omega) (show 4 ≤ 6 by first | assumption | omega))) kV_L_42 ⟨rfl, rfl⟩ ⟨Nat.le_of_ble_eq_true rfl, Nat.le_of_ble_eq_true rfl⟩ rfl hl (Nat.le_of_ble_eq_true rfl) ⟨show cells + 0 ≤ (600074 : Nat) by omega, show slots + 0 ≤ (7301550 : Nat) by omega⟩ dL_law_800 ?_
    refine lv_iaddN hx hb dL_law_803 ?_
    refine lv_iload hx hb dL_law_804 (lv_at hl 1 rfl) ?_
    refine lv_iload hx hb dL_law_806 (lv_at hl 0 rfl) ?_
    refine lv_isub hx hb dL_law_808 ?_
    refine lv_icmp_ne (tgt := 825) hx hb dL_law_809 (by decide) (fun c_809 => ?_) (fun c_809 => ?_)
    · skip
      exact absurd (nis_totI hw3 _) c_809
    · skip
      refine lv_aload_n hx hb dL_law_812 rfl (lv_at hl 4 rfl) ?_
      refine lv_iload hx hb dL_law_813 (lv_at hl 11 rfl) ?_
      refine lv_iconstN hx hb 1 dL_law_815 (by decide) ?_
      refine la_V (As := [.int (nI hh), .int (nI 1)]) (rest := []) (v := nI 360) hx hb hml hown hC hS hAb hW (fun ly L ad hX => RoI.cast (oh1.trans (by rw [nis_min (by omega) (by omega)])) (mX3_ofHand_g l hX hh 1 (show hh < (niC cy (1 + blN (vx >>> (nI 4 &&& 31)) 4)).R 10 1 by first | assumption | omega) (show 1 ≤ 10 by first | assumption | omega))) kV_L_68 ⟨rfl, rfl⟩ ⟨Nat.le_of_ble_eq_true rfl, Nat.le_of_ble_eq_true rfl⟩ rfl hl (Nat.le_of_ble_eq_true rfl) ⟨show cells + 0 ≤ (600074 : Nat) by omega, show slots + 0 ≤ (7301550 : Nat) by omega⟩ dL_law_816 ?_
      refine lv_sipushN hx hb 360 dL_law_819 (by decide) ?_
      refine lv_icmpN_eq (tgt := 882) hx hb dL_law_822 (by decide) (by omega) (by omega) (fun c_822 => ?_) (fun c_822 => ?_)
      · skip
        refine W.widen (k := cells + 2) (n := slots + 211) (by omega) (by omega) ?_
        exact kk _ _ _ _ _ hW hI_aw hI_af G2 hS (lv_sub hl [3, 4, 5, 6, 7, 8] rfl)
      · skip
        exact absurd rfl c_822
set_option maxHeartbeats 4000000 in
set_option maxRecDepth 100000 in
theorem lc_painted (C : LC p l s m co E bb Ln xs) {x aw af hs : Nat} {g F : Nat → Int32} {cy : Cy} {H : Heap} {locs : List Loc} (hW : CW E x cy [aw, af] H) (hI_aw : iA E aw 3 g H) (hI_af : iA E af hs F H) (hne_aw_af : aw ≠ af) (hA_aw : bA E aw) (hA_af : bA E af) {k : Nat} (G : GI cy g hs F k) (hs3 : 3 ≤ hs) (hk : k < 58) (hS : va_S (bA E) s.heap H locs) {cells slots : Nat} (hcs : cells ≤ 1000 ∧ slots ≤ 100000) (vx vy : Int32) {hh ww : Nat} (hhh : hh < hs) (hww : ww < 3) (kk : ∀ (H1 : Heap) (locs1 : List Loc) (c2 : Cy) (F2 : Nat → Int32) (ls1 : Array Slot), CW E x c2 [aw, af] H1 → iA E aw 3 g H1 → iA E af hs F2 H1 → GI c2 g hs F2 (k + 1) → va_S (bA E) s.heap H1 locs1 → lv_has ls1 22 [(0, .ref bb), (1, .ref x), (2, .ref aw), (3, .int (nI hs)), (4, .ref af), (5, .int (nI k))] → W p l e room_1 s m #[Value.ref bb] below meth co H1 locs1 (cells + 2) (slots + 211) Q (F0 m 882 ls1 [])) {ls : Array Slot} (hl : lv_has ls 22 [(0, .ref bb), (1, .ref x), (2, .ref aw), (3, .int (nI hs)), (4, .ref af), (5, .int (nI k)), (6, .int vx), (7, .int vy), (8, .int (nI hh)), (9, .int (nI ww)), (10, .int (nI (cy.R 10 2))), (11, .int (cy.I 0 0))]) : W p l e room_1 s m #[Value.ref bb] below meth co H locs cells slots Q (F0 m 827 ls []) := by
  obtain ⟨hx, hb, hml, hown, hC, hXs, hbl, hE0, hst, hLn⟩ := C
  have hAb : ∀ q, bA E q → bA E q := fun _ h => h
  have hbA : ¬ bA E bb := fun z => absurd hbl (Nat.not_lt.mpr (by rw [← hE0]; exact z))
  have wf := hW.wf
  have hw3 := G.nw
  have hw1 := G.nw1
  have hwh := G.nh
  have hwh1 := G.nh1
  have hwl := G.nl
  have hwl6 := wf.nl
  have hwh8 := wf.nh
  have hnt := wf.nt
  have hti := G.ti
  have hne_af_aw : af ≠ aw := Ne.symm hne_aw_af
  have hwd := wf.wd (show ww < cy.R 11 0 by omega)
  refine lv_iconstN hx hb 1 dL_law_827 (by decide) ?_
  refine lv_iload hx hb dL_law_828 (lv_at hl 6 rfl) ?_
  refine lv_iconstN hx hb 4 dL_law_830 (by decide) ?_
  refine lv_ishr hx hb dL_law_831 ?_
  refine lv_iconstN hx hb 4 dL_law_832 (by decide) ?_
  refine ro_S (As := [.int (vx >>> (nI 4 &&& 31)), .int (nI 4)]) (rest := [.int (nI 1)]) (v := nI (blN (vx >>> (nI 4 &&& 31)) 4)) hx hb hml hown hC hS hAb (mL_below l (vx >>> (nI 4 &&& 31)) 4 (by first | assumption | omega) (by omega)) kS_L_18 ⟨rfl, rfl⟩ ⟨Nat.le_of_ble_eq_true rfl, Nat.le_of_ble_eq_true rfl⟩ rfl hl (Nat.le_of_ble_eq_true rfl) ⟨show cells ≤ (600074 : Nat) by omega, show slots ≤ (7301550 : Nat) by omega⟩ dL_law_833 ?_
  have hb_1 : blN (vx >>> (nI 4 &&& 31)) 4 < 4 := blN_lt (by first | assumption | omega)
  refine lv_iaddN hx hb dL_law_836 ?_
  refine lv_istore (lv' := [(21, .int (nI (1 + (blN (vx >>> (nI 4 &&& 31)) 4)))), (0, .ref bb), (1, .ref x), (2, .ref aw), (3, .int (nI hs)), (4, .ref af), (5, .int (nI k)), (6, .int vx), (7, .int vy), (8, .int (nI hh)), (9, .int (nI ww)), (10, .int (nI (cy.R 10 2))), (11, .int (cy.I 0 0))]) hx hb dL_law_837 hl (by decide) rfl (fun ls hl => ?_)
  refine lv_aload_n hx hb dL_law_839 rfl (lv_at hl 2 rfl) ?_
  refine lv_iload hx hb dL_law_840 (lv_at hl 9 rfl) ?_
  refine lv_iload hx hb dL_law_842 (lv_at hl 10 rfl) ?_
  refine lv_iload hx hb dL_law_844 (lv_at hl 7 rfl) ?_
  refine lv_iconstN hx hb 5 dL_law_846 (by decide) ?_
  refine lv_ishr hx hb dL_law_847 ?_
  refine lv_aload_n hx hb dL_law_848 rfl (lv_at hl 3 rfl) ?_
  refine lv_iload hx hb dL_law_849 (lv_at hl 10 rfl) ?_
  refine li_ld hx hb hC hI_aw (j := ww) (by first | assumption | omega) (by omega) dL_law_851 ?_
  rw [show g ww = nI (cy.R 1 ww) from G.wi hww]
  refine lv_iload hx hb dL_law_852 (lv_at hl 0 rfl) ?_
  refine lv_isubN hx hb dL_law_854 (by first | assumption | omega) ?_
  refine lv_iconstN hx hb 1 dL_law_855 (by decide) ?_
  refine lv_iaddN hx hb dL_law_856 ?_
  refine ro_S (As := [.int (vx >>> (nI 5 &&& 31)), .int (nI (((cy.R 1 ww) - (1 + (blN (vx >>> (nI 4 &&& 31)) 4))) + 1))]) (rest := [.int (nI ww), .int (nI hh), .ref x]) (v := nI (blN (vx >>> (nI 5 &&& 31)) (((cy.R 1 ww) - (1 + (blN (vx >>> (nI 4 &&& 31)) 4))) + 1))) hx hb hml hown hC hS hAb (mL_below l (vx >>> (nI 5 &&& 31)) (((cy.R 1 ww) - (1 + (blN (vx >>> (nI 4 &&& 31)) 4))) + 1) (by first | assumption | omega) (by omega)) kS_L_18 ⟨rfl, rfl⟩ ⟨Nat.le_of_ble_eq_true rfl, Nat.le_of_ble_eq_true rfl⟩ rfl hl (Nat.le_of_ble_eq_true rfl) ⟨show cells ≤ (600074 : Nat) by omega, show slots ≤ (7301550 : Nat) by omega⟩ dL_law_857 ?_
  have hb_2 : blN (vx >>> (nI 5 &&& 31)) (((cy.R 1 ww) - (1 + (blN (vx >>> (nI 4 &&& 31)) 4))) + 1) < ((cy.R 1 ww) - (1 + (blN (vx >>> (nI 4 &&& 31)) 4))) + 1 := blN_lt (by first | assumption | omega)
  refine lv_iload hx hb dL_law_860 (lv_at hl 0 rfl) ?_
  refine lv_iload hx hb dL_law_862 (lv_at hl 7 rfl) ?_
  refine lv_bipushN hx hb 6 dL_law_864 (by decide) ?_
  refine lv_ishr hx hb dL_law_866 ?_
  refine lv_iconstN hx hb 4 dL_law_867 (by decide) ?_
  refine ro_S (As := [.int (vx >>> (nI 6 &&& 31)), .int (nI 4)]) (rest := [.int (nI (1 + (blN (vx >>> (nI 4 &&& 31)) 4))), .int (nI (blN (vx >>> (nI 5 &&& 31)) (((cy.R 1 ww) - (1 + (blN (vx >>> (nI 4 &&& 31)) 4))) + 1))), .int (nI ww), .int (nI hh), .ref x]) (v := nI (blN (vx >>> (nI 6 &&& 31)) 4)) hx hb hml hown hC hS hAb (mL_below l (vx >>> (nI 6 &&& 31)) 4 (by first | assumption | omega) (by omega)) kS_L_18 ⟨rfl, rfl⟩ ⟨Nat.le_of_ble_eq_true rfl, Nat.le_of_ble_eq_true rfl⟩ rfl hl (Nat.le_of_ble_eq_true rfl) ⟨show cells ≤ (600074 : Nat) by omega, show slots ≤ (7301550 : Nat) by omega⟩ dL_law_868 ?_
  have hb_3 : blN (vx >>> (nI 6 &&& 31)) 4 < 4 := blN_lt (by first | assumption | omega)
  refine lv_aload hx hb dL_law_871 (lv_at hl 5 rfl) ?_
  refine lv_iload_n hx hb dL_law_873 rfl (lv_at hl 4 rfl) ?_
  refine lw_S (As := [.ref x, .int (nI hh), .int (nI ww), .int (nI (blN (vx >>> (nI 5 &&& 31)) (((cy.R 1 ww) - (1 + (blN (vx >>> (nI 4 &&& 31)) 4))) + 1))), .int (nI (1 + (blN (vx >>> (nI 4 &&& 31)) 4))), .int (nI (blN (vx >>> (nI 6 &&& 31)) 4)), .ref af, .int (nI hs)]) (rest := []) (v := bI true) hx hb hml hown hC hS hAb (mL_isPainted l hst (Ks := [aw]) (hW.less (fun q h => by simp only [List.mem_cons, List.not_mem_nil, or_false] at h ⊢; exact h.symm)) hI_af ⟨hA_af, by simp; exact Ne.symm hne_aw_af⟩ G hh ww (blN (vx >>> (nI 5 &&& 31)) (((cy.R 1 ww) - (1 + (blN (vx >>> (nI 4 &&& 31)) 4))) + 1)) (1 + (blN (vx >>> (nI 4 &&& 31)) 4)) (blN (vx >>> (nI 6 &&& 31)) 4) hhh hww (by omega) (by omega) (by omega)) (fun q h => h.1) kB_L_74 ⟨rfl, rfl⟩ ⟨Nat.le_of_ble_eq_true rfl, Nat.le_of_ble_eq_true rfl⟩ rfl hl (Nat.le_of_ble_eq_true rfl) ⟨show cells + 2 ≤ (600074 : Nat) by omega, show slots + 211 ≤ (7301550 : Nat) by omega⟩ dL_law_874 (fun H locs hB hS hz hk9 => ?_)
  obtain ⟨hW, hI_af⟩ := hB
  have hW := hW.less (Ks2 := [aw, af]) (fun q h => by simp only [List.mem_cons, List.not_mem_nil, or_false] at h ⊢; exact h.symm)
  have hI_aw := hI_aw.kept (hk9 aw hI_aw.lt (fun h => h.2 (by simp)))
  refine lv_bif_ne (tgt := 882) hx hb dL_law_877 (by decide) (fun c_877 => ?_) (fun c_877 => ?_)
  · skip
    exact kk _ _ _ _ _ hW hI_aw hI_af (pn_GI wf G hhh hww (by omega)) hS (lv_sub hl [1, 2, 3, 4, 5, 6] rfl)
  · skip
    exact absurd c_877 (by decide)
end CAS
