section CAS
variable {p : Program} {l : Launch} {e : Env} {s : State} {m : MethodId} {below : List Frame} {meth : Method} {co : Code} {bb Ln : Nat} {xs : Nat → Int32} {E : En} {Q : State → Prop}
set_option maxHeartbeats 4000000 in
set_option maxRecDepth 100000 in
theorem lc_wrongs_g (C0 : LC p l s m co E bb Ln xs) {c : Cy} {th : Int32} {v0 : Int64} {H : Heap} {locs : List Loc} {x mm out : Nat} (hT : LT E s.heap x mm out c c th v0 H locs) {ii : Nat} (hii : ii + 7 ≤ Ln) {cells slots : Nat} (hcs : cells + 1100 ≤ 609960 ∧ slots + 14000 ≤ 7266223) {ls : Array Slot} (hl : lv_has ls 9 [(4, .int (nI ii)), (0, .ref bb), (1, .ref x), (2, .ref mm), (3, .ref out)]) (kk : KK p l e s m below meth co bb E Q x mm out ii cells slots) (h g : Nat) (hq1 : xs (ii + 1) = nI h) (hq2 : xs (ii + 2) = nI g) (hh : h < c.R 10 1) (hg : g < c.R 10 1) : W p l e room_1 s m #[Value.ref bb] below meth co H locs cells slots Q (F0 m 1296 ls []) := by
  obtain ⟨hx, hb, hml, hown, hC, hNc, hXs, hbl, hE0, hst, hLn⟩ := C0
  have hAb : ∀ q, bA E q → bA E q := fun _ h => h
  have hbb : ¬ bA E bb := by show ¬ E.2 0 ≤ bb; rw [hE0]; exact Nat.not_le.mpr hbl
  obtain ⟨ly, L, ad, ly', L', ad', hX, hM, hx0, hm0, hdj, hoL, hoM, hO, hob, hS⟩ := hT
  have hLb := hX.2.2.1
  have hLbM := hM.2.2.1
  have hz0 : ∀ q, H.size ≤ q → bA E q := fun q z => by show E.2 0 ≤ q; rw [hE0]; exact Nat.le_trans hS.1 z
  refine lv_aload_n hx hb dL_law_1296 rfl (lv_at hl 2 rfl) ?_
  refine lv_aload_n hx hb dL_law_1297 rfl (lv_at hl 1 rfl) ?_
  refine lv_iload hx hb dL_law_1298 (lv_at hl 0 rfl) ?_
  refine lv_iconstN hx hb 1 dL_law_1300 (by decide) ?_
  refine lv_iaddN hx hb dL_law_1301 ?_
  refine lw_sld hx hb hXs hbl hbb hS (show ii + 1 < Ln by omega) hLn dL_law_1302 ?_
  rw [hq1]
  refine lv_aload_n hx hb dL_law_1303 rfl (lv_at hl 1 rfl) ?_
  refine lv_iload hx hb dL_law_1304 (lv_at hl 0 rfl) ?_
  refine lv_iconstN hx hb 2 dL_law_1306 (by decide) ?_
  refine lv_iaddN hx hb dL_law_1307 ?_
  refine lw_sld hx hb hXs hbl hbb hS (show ii + 2 < Ln by omega) hLn dL_law_1308 ?_
  rw [hq2]
  refine lv_aload_n hx hb dL_law_1309 rfl (lv_at hl 4 rfl) ?_
  have hMt := mL_wrongs_g l hX hO hoL hob h g hh hg
  rw [hx0] at hMt
  refine lw_S (As := [.ref x, .int (nI h), .int (nI g), .ref out]) (rest := []) hx hb hml hown hC hNc hS hAb hMt (fun q h => h.elim (hLb q) (fun h => h.elim (fun h => by rw [h]; exact hob) (hz0 q))) kW_L_151 ⟨rfl, rfl⟩ ⟨Nat.le_of_ble_eq_true rfl, Nat.le_of_ble_eq_true rfl⟩ rfl hl (Nat.le_of_ble_eq_true rfl) ⟨show cells + 0 ≤ 609960 by omega, show slots + 0 ≤ 7266223 by omega⟩ dL_law_1310 (fun H locs hB hS1 hz hkk => ?_)
  have hT := lt_x hX hM hx0 hm0 hdj hoL hoM hO hob hB hkk hS1
  obtain ⟨ly, L, ad, ly', L', ad', hX, hM, hx0, hm0, hdj, hoL, hoM, hO, hob, hS⟩ := hT
  have hLb := hX.2.2.1
  have hLbM := hM.2.2.1
  have hz0 : ∀ q, H.size ≤ q → bA E q := fun q z => by show E.2 0 ≤ q; rw [hE0]; exact Nat.le_trans hS.1 z
  refine lv_istore (lv' := [(5, .int (nI 0)), (4, .int (nI ii)), (0, .ref bb), (1, .ref x), (2, .ref mm), (3, .ref out)]) hx hb dL_law_1313 hl (by decide) rfl (fun ls hl => ?_)
  refine lv_aload_n hx hb dL_law_1315 rfl (lv_at hl 4 rfl) ?_
  refine lv_aload_n hx hb dL_law_1316 rfl (lv_at hl 2 rfl) ?_
  refine lv_iload hx hb dL_law_1317 (lv_at hl 1 rfl) ?_
  refine lv_iconstN hx hb 1 dL_law_1319 (by decide) ?_
  refine lv_iaddN hx hb dL_law_1320 ?_
  refine lw_sld hx hb hXs hbl hbb hS (show ii + 1 < Ln by omega) hLn dL_law_1321 ?_
  rw [hq1]
  refine lv_aload_n hx hb dL_law_1322 rfl (lv_at hl 2 rfl) ?_
  refine lv_iload hx hb dL_law_1323 (lv_at hl 1 rfl) ?_
  refine lv_iconstN hx hb 2 dL_law_1325 (by decide) ?_
  refine lv_iaddN hx hb dL_law_1326 ?_
  refine lw_sld hx hb hXs hbl hbb hS (show ii + 2 < Ln by omega) hLn dL_law_1327 ?_
  rw [hq2]
  have hMt := mX7_wrongs_g l hM h g hh hg
  rw [hm0] at hMt
  refine mu_V (As := [.int (nI h), .int (nI g)]) (h0 := mm) (rest := []) (v := c.Wr h g) hx hb hml hown hC hS hAb hMt (fun q h => h.elim (hLbM q) (hz0 q)) kV_L_153 ⟨rfl, rfl⟩ ⟨Nat.le_of_ble_eq_true rfl, Nat.le_of_ble_eq_true rfl⟩ (by rw [← hm0]; exact hM.1.recv hC cM_0 rfl) rfl hl (Nat.le_of_ble_eq_true rfl) ⟨show cells + 0 ≤ 609960 by omega, show slots + 0 ≤ 7266223 by omega⟩ dL_law_1328 (fun H locs hB hS1 hz hkk => ?_)
  have hT := lt_m hX hM hx0 hm0 hdj hoL hoM hO hob ⟨L', ly', ad', hB, hm0, fun q h => Or.inl h⟩ hkk hS1
  obtain ⟨ly, L, ad, ly', L', ad', hX, hM, hx0, hm0, hdj, hoL, hoM, hO, hob, hS⟩ := hT
  have hLb := hX.2.2.1
  have hLbM := hM.2.2.1
  have hz0 : ∀ q, H.size ≤ q → bA E q := fun q z => by show E.2 0 ≤ q; rw [hE0]; exact Nat.le_trans hS.1 z
  refine lv_istore (lv' := [(6, .int (c.Wr h g)), (5, .int (nI 0)), (4, .int (nI ii)), (0, .ref bb), (1, .ref x), (2, .ref mm), (3, .ref out)]) hx hb dL_law_1331 hl (by decide) rfl (fun ls hl => ?_)
  refine lv_aload_n hx hb dL_law_1333 rfl (lv_at hl 5 rfl) ?_
  have hMt := mX7_thrown l hM
  rw [hm0] at hMt
  refine ro_V (As := []) (h0 := mm) (rest := []) (v := nI 0) hx hb hml hown hC hS hAb hMt kV_L_98 ⟨rfl, rfl⟩ ⟨Nat.le_of_ble_eq_true rfl, Nat.le_of_ble_eq_true rfl⟩ (by rw [← hm0]; exact hM.1.recv hC cM_0 rfl) rfl hl (Nat.le_of_ble_eq_true rfl) ⟨show cells + 0 ≤ 609960 by omega, show slots + 0 ≤ 7266223 by omega⟩ dL_law_1334 ?_
  refine lv_iload hx hb dL_law_1337 (lv_at hl 1 rfl) ?_
  refine lv_icmp_eq (tgt := 1344) hx hb dL_law_1339 (by decide) (fun _ => ?_) (fun c9 => absurd rfl c9)
  refine lv_iload hx hb dL_law_1344 (lv_at hl 1 rfl) ?_
  have hT : LT E s.heap x mm out _ _ _ _ H locs := ⟨ly, L, ad, ly', L', ad', hX, hM, hx0, hm0, hdj, hoL, hoM, hO, hob, hS⟩
  refine lv_if_ne (tgt := 1361) hx hb dL_law_1346 (by decide) (fun c9 => absurd (by decide) c9) (fun _ => ?_)
  refine lv_aload_n hx hb dL_law_1349 rfl (lv_at hl 6 rfl) ?_
  refine lv_iconstN hx hb 0 dL_law_1350 (by decide) ?_
  refine lw_lald hx hb hC hO dL_law_1351 ?_
  refine lv_iload hx hb dL_law_1352 (lv_at hl 0 rfl) ?_
  refine lv_i2l (v := (c.Wr h g).toInt64) hx hb dL_law_1354 rfl ?_
  refine W.lcmp hx hb dL_law_1355 ?_
  rw [lg_self]
  refine lv_if_eq (tgt := 1361) hx hb dL_law_1356 (by decide) (fun _ => ?_) (fun c9 => absurd rfl c9)
  refine lv_goto (tgt := 1820) hx hb dL_law_1361 (by decide) ?_
  refine W.widen (k := cells + 1100) (n := slots + 14000) (by omega) (by omega) ?_
  exact kk _ _ _ _ _ _ hT (lv_sub hl [2, 3, 4, 5, 6] rfl)
set_option maxHeartbeats 4000000 in
set_option maxRecDepth 100000 in
theorem lc_wrongs_b1 (C0 : LC p l s m co E bb Ln xs) {c : Cy} {th : Int32} {v0 : Int64} {H : Heap} {locs : List Loc} {x mm out : Nat} (hT : LT E s.heap x mm out c c th v0 H locs) {ii : Nat} (hii : ii + 7 ≤ Ln) {cells slots : Nat} (hcs : cells + 1100 ≤ 609960 ∧ slots + 14000 ≤ 7266223) {ls : Array Slot} (hl : lv_has ls 9 [(4, .int (nI ii)), (0, .ref bb), (1, .ref x), (2, .ref mm), (3, .ref out)]) (kk : KK p l e s m below meth co bb E Q x mm out ii cells slots) (v w : Int32) (hq1 : xs (ii + 1) = v) (hq2 : xs (ii + 2) = w) (hv : isInS v (nI 0) (nI (c.R 10 1) - nI 1) = false) : W p l e room_1 s m #[Value.ref bb] below meth co H locs cells slots Q (F0 m 1296 ls []) := by
  obtain ⟨hx, hb, hml, hown, hC, hNc, hXs, hbl, hE0, hst, hLn⟩ := C0
  have hAb : ∀ q, bA E q → bA E q := fun _ h => h
  have hbb : ¬ bA E bb := by show ¬ E.2 0 ≤ bb; rw [hE0]; exact Nat.not_le.mpr hbl
  obtain ⟨ly, L, ad, ly', L', ad', hX, hM, hx0, hm0, hdj, hoL, hoM, hO, hob, hS⟩ := hT
  have hLb := hX.2.2.1
  have hLbM := hM.2.2.1
  have hz0 : ∀ q, H.size ≤ q → bA E q := fun q z => by show E.2 0 ≤ q; rw [hE0]; exact Nat.le_trans hS.1 z
  refine lv_aload_n hx hb dL_law_1296 rfl (lv_at hl 2 rfl) ?_
  refine lv_aload_n hx hb dL_law_1297 rfl (lv_at hl 1 rfl) ?_
  refine lv_iload hx hb dL_law_1298 (lv_at hl 0 rfl) ?_
  refine lv_iconstN hx hb 1 dL_law_1300 (by decide) ?_
  refine lv_iaddN hx hb dL_law_1301 ?_
  refine lw_sld hx hb hXs hbl hbb hS (show ii + 1 < Ln by omega) hLn dL_law_1302 ?_
  rw [hq1]
  refine lv_aload_n hx hb dL_law_1303 rfl (lv_at hl 1 rfl) ?_
  refine lv_iload hx hb dL_law_1304 (lv_at hl 0 rfl) ?_
  refine lv_iconstN hx hb 2 dL_law_1306 (by decide) ?_
  refine lv_iaddN hx hb dL_law_1307 ?_
  refine lw_sld hx hb hXs hbl hbb hS (show ii + 2 < Ln by omega) hLn dL_law_1308 ?_
  rw [hq2]
  refine lv_aload_n hx hb dL_law_1309 rfl (lv_at hl 4 rfl) ?_
  have hMt := mL_wrongs_b1 l hst hX hO hoL hob v w hv
  rw [hx0] at hMt
  refine lw_S (As := [.ref x, .int v, .int w, .ref out]) (rest := []) hx hb hml hown hC hNc hS hAb hMt (fun q h => h.elim (hLb q) (fun h => h.elim (fun h => by rw [h]; exact hob) (hz0 q))) kW_L_151 ⟨rfl, rfl⟩ ⟨Nat.le_of_ble_eq_true rfl, Nat.le_of_ble_eq_true rfl⟩ rfl hl (Nat.le_of_ble_eq_true rfl) ⟨show cells + 1 ≤ 609960 by omega, show slots + 6 ≤ 7266223 by omega⟩ dL_law_1310 (fun H locs hB hS1 hz hkk => ?_)
  have hT := lt_x hX hM hx0 hm0 hdj hoL hoM hO hob hB hkk hS1
  obtain ⟨ly, L, ad, ly', L', ad', hX, hM, hx0, hm0, hdj, hoL, hoM, hO, hob, hS⟩ := hT
  have hLb := hX.2.2.1
  have hLbM := hM.2.2.1
  have hz0 : ∀ q, H.size ≤ q → bA E q := fun q z => by show E.2 0 ≤ q; rw [hE0]; exact Nat.le_trans hS.1 z
  refine lv_istore (lv' := [(5, .int (nI 1)), (4, .int (nI ii)), (0, .ref bb), (1, .ref x), (2, .ref mm), (3, .ref out)]) hx hb dL_law_1313 hl (by decide) rfl (fun ls hl => ?_)
  refine lv_aload_n hx hb dL_law_1315 rfl (lv_at hl 4 rfl) ?_
  refine lv_aload_n hx hb dL_law_1316 rfl (lv_at hl 2 rfl) ?_
  refine lv_iload hx hb dL_law_1317 (lv_at hl 1 rfl) ?_
  refine lv_iconstN hx hb 1 dL_law_1319 (by decide) ?_
  refine lv_iaddN hx hb dL_law_1320 ?_
  refine lw_sld hx hb hXs hbl hbb hS (show ii + 1 < Ln by omega) hLn dL_law_1321 ?_
  rw [hq1]
  refine lv_aload_n hx hb dL_law_1322 rfl (lv_at hl 2 rfl) ?_
  refine lv_iload hx hb dL_law_1323 (lv_at hl 1 rfl) ?_
  refine lv_iconstN hx hb 2 dL_law_1325 (by decide) ?_
  refine lv_iaddN hx hb dL_law_1326 ?_
  refine lw_sld hx hb hXs hbl hbb hS (show ii + 2 < Ln by omega) hLn dL_law_1327 ?_
  rw [hq2]
  have hMt := mX7_wrongs_b1 l hM v w (by rw [hv]; rfl)
  rw [hm0] at hMt
  refine mu_V (As := [.int v, .int w]) (h0 := mm) (rest := []) (v := nI 0) hx hb hml hown hC hS hAb hMt (fun q h => h.elim (hLbM q) (hz0 q)) kV_L_153 ⟨rfl, rfl⟩ ⟨Nat.le_of_ble_eq_true rfl, Nat.le_of_ble_eq_true rfl⟩ (by rw [← hm0]; exact hM.1.recv hC cM_0 rfl) rfl hl (Nat.le_of_ble_eq_true rfl) ⟨show cells + 1 + 0 ≤ 609960 by omega, show slots + 6 + 0 ≤ 7266223 by omega⟩ dL_law_1328 (fun H locs hB hS1 hz hkk => ?_)
  have hT := lt_m hX hM hx0 hm0 hdj hoL hoM hO hob ⟨L', ly', ad', hB, hm0, fun q h => Or.inl h⟩ hkk hS1
  obtain ⟨ly, L, ad, ly', L', ad', hX, hM, hx0, hm0, hdj, hoL, hoM, hO, hob, hS⟩ := hT
  have hLb := hX.2.2.1
  have hLbM := hM.2.2.1
  have hz0 : ∀ q, H.size ≤ q → bA E q := fun q z => by show E.2 0 ≤ q; rw [hE0]; exact Nat.le_trans hS.1 z
  refine lv_istore (lv' := [(6, .int (nI 0)), (5, .int (nI 1)), (4, .int (nI ii)), (0, .ref bb), (1, .ref x), (2, .ref mm), (3, .ref out)]) hx hb dL_law_1331 hl (by decide) rfl (fun ls hl => ?_)
  refine lv_aload_n hx hb dL_law_1333 rfl (lv_at hl 5 rfl) ?_
  have hMt := mX7_thrown l hM
  rw [hm0] at hMt
  refine ro_V (As := []) (h0 := mm) (rest := []) (v := nI 1) hx hb hml hown hC hS hAb hMt kV_L_98 ⟨rfl, rfl⟩ ⟨Nat.le_of_ble_eq_true rfl, Nat.le_of_ble_eq_true rfl⟩ (by rw [← hm0]; exact hM.1.recv hC cM_0 rfl) rfl hl (Nat.le_of_ble_eq_true rfl) ⟨show cells + 1 + 0 ≤ 609960 by omega, show slots + 6 + 0 ≤ 7266223 by omega⟩ dL_law_1334 ?_
  refine lv_iload hx hb dL_law_1337 (lv_at hl 1 rfl) ?_
  refine lv_icmp_eq (tgt := 1344) hx hb dL_law_1339 (by decide) (fun _ => ?_) (fun c9 => absurd rfl c9)
  refine lv_iload hx hb dL_law_1344 (lv_at hl 1 rfl) ?_
  have hT : LT E s.heap x mm out _ _ _ _ H locs := ⟨ly, L, ad, ly', L', ad', hX, hM, hx0, hm0, hdj, hoL, hoM, hO, hob, hS⟩
  refine lv_if_ne (tgt := 1361) hx hb dL_law_1346 (by decide) (fun _ => ?_) (fun c9 => absurd c9 (by decide))
  refine lv_goto (tgt := 1820) hx hb dL_law_1361 (by decide) ?_
  refine W.widen (k := cells + 1100) (n := slots + 14000) (by omega) (by omega) ?_
  exact kk _ _ _ _ _ _ hT (lv_sub hl [2, 3, 4, 5, 6] rfl)
set_option maxHeartbeats 4000000 in
set_option maxRecDepth 100000 in
theorem lc_wrongs_b2 (C0 : LC p l s m co E bb Ln xs) {c : Cy} {th : Int32} {v0 : Int64} {H : Heap} {locs : List Loc} {x mm out : Nat} (hT : LT E s.heap x mm out c c th v0 H locs) {ii : Nat} (hii : ii + 7 ≤ Ln) {cells slots : Nat} (hcs : cells + 1100 ≤ 609960 ∧ slots + 14000 ≤ 7266223) {ls : Array Slot} (hl : lv_has ls 9 [(4, .int (nI ii)), (0, .ref bb), (1, .ref x), (2, .ref mm), (3, .ref out)]) (kk : KK p l e s m below meth co bb E Q x mm out ii cells slots) (h : Nat) (v : Int32) (hq1 : xs (ii + 1) = nI h) (hq2 : xs (ii + 2) = v) (hh : h < c.R 10 1) (hv : isInS v (nI 0) (nI (c.R 10 1) - nI 1) = false) : W p l e room_1 s m #[Value.ref bb] below meth co H locs cells slots Q (F0 m 1296 ls []) := by
  obtain ⟨hx, hb, hml, hown, hC, hNc, hXs, hbl, hE0, hst, hLn⟩ := C0
  have hAb : ∀ q, bA E q → bA E q := fun _ h => h
  have hbb : ¬ bA E bb := by show ¬ E.2 0 ≤ bb; rw [hE0]; exact Nat.not_le.mpr hbl
  obtain ⟨ly, L, ad, ly', L', ad', hX, hM, hx0, hm0, hdj, hoL, hoM, hO, hob, hS⟩ := hT
  have hLb := hX.2.2.1
  have hLbM := hM.2.2.1
  have hz0 : ∀ q, H.size ≤ q → bA E q := fun q z => by show E.2 0 ≤ q; rw [hE0]; exact Nat.le_trans hS.1 z
  refine lv_aload_n hx hb dL_law_1296 rfl (lv_at hl 2 rfl) ?_
  refine lv_aload_n hx hb dL_law_1297 rfl (lv_at hl 1 rfl) ?_
  refine lv_iload hx hb dL_law_1298 (lv_at hl 0 rfl) ?_
  refine lv_iconstN hx hb 1 dL_law_1300 (by decide) ?_
  refine lv_iaddN hx hb dL_law_1301 ?_
  refine lw_sld hx hb hXs hbl hbb hS (show ii + 1 < Ln by omega) hLn dL_law_1302 ?_
  rw [hq1]
  refine lv_aload_n hx hb dL_law_1303 rfl (lv_at hl 1 rfl) ?_
  refine lv_iload hx hb dL_law_1304 (lv_at hl 0 rfl) ?_
  refine lv_iconstN hx hb 2 dL_law_1306 (by decide) ?_
  refine lv_iaddN hx hb dL_law_1307 ?_
  refine lw_sld hx hb hXs hbl hbb hS (show ii + 2 < Ln by omega) hLn dL_law_1308 ?_
  rw [hq2]
  refine lv_aload_n hx hb dL_law_1309 rfl (lv_at hl 4 rfl) ?_
  have hMt := mL_wrongs_b2 l hst hX hO hoL hob h v hh hv
  rw [hx0] at hMt
  refine lw_S (As := [.ref x, .int (nI h), .int v, .ref out]) (rest := []) hx hb hml hown hC hNc hS hAb hMt (fun q h => h.elim (hLb q) (fun h => h.elim (fun h => by rw [h]; exact hob) (hz0 q))) kW_L_151 ⟨rfl, rfl⟩ ⟨Nat.le_of_ble_eq_true rfl, Nat.le_of_ble_eq_true rfl⟩ rfl hl (Nat.le_of_ble_eq_true rfl) ⟨show cells + 1 ≤ 609960 by omega, show slots + 6 ≤ 7266223 by omega⟩ dL_law_1310 (fun H locs hB hS1 hz hkk => ?_)
  have hT := lt_x hX hM hx0 hm0 hdj hoL hoM hO hob hB hkk hS1
  obtain ⟨ly, L, ad, ly', L', ad', hX, hM, hx0, hm0, hdj, hoL, hoM, hO, hob, hS⟩ := hT
  have hLb := hX.2.2.1
  have hLbM := hM.2.2.1
  have hz0 : ∀ q, H.size ≤ q → bA E q := fun q z => by show E.2 0 ≤ q; rw [hE0]; exact Nat.le_trans hS.1 z
  refine lv_istore (lv' := [(5, .int (nI 1)), (4, .int (nI ii)), (0, .ref bb), (1, .ref x), (2, .ref mm), (3, .ref out)]) hx hb dL_law_1313 hl (by decide) rfl (fun ls hl => ?_)
  refine lv_aload_n hx hb dL_law_1315 rfl (lv_at hl 4 rfl) ?_
  refine lv_aload_n hx hb dL_law_1316 rfl (lv_at hl 2 rfl) ?_
  refine lv_iload hx hb dL_law_1317 (lv_at hl 1 rfl) ?_
  refine lv_iconstN hx hb 1 dL_law_1319 (by decide) ?_
  refine lv_iaddN hx hb dL_law_1320 ?_
  refine lw_sld hx hb hXs hbl hbb hS (show ii + 1 < Ln by omega) hLn dL_law_1321 ?_
  rw [hq1]
  refine lv_aload_n hx hb dL_law_1322 rfl (lv_at hl 2 rfl) ?_
  refine lv_iload hx hb dL_law_1323 (lv_at hl 1 rfl) ?_
  refine lv_iconstN hx hb 2 dL_law_1325 (by decide) ?_
  refine lv_iaddN hx hb dL_law_1326 ?_
  refine lw_sld hx hb hXs hbl hbb hS (show ii + 2 < Ln by omega) hLn dL_law_1327 ?_
  rw [hq2]
  have hMt := mX7_wrongs_b1 l hM (nI h) v (by rw [hv, Bool.and_false])
  rw [hm0] at hMt
  refine mu_V (As := [.int (nI h), .int v]) (h0 := mm) (rest := []) (v := nI 0) hx hb hml hown hC hS hAb hMt (fun q h => h.elim (hLbM q) (hz0 q)) kV_L_153 ⟨rfl, rfl⟩ ⟨Nat.le_of_ble_eq_true rfl, Nat.le_of_ble_eq_true rfl⟩ (by rw [← hm0]; exact hM.1.recv hC cM_0 rfl) rfl hl (Nat.le_of_ble_eq_true rfl) ⟨show cells + 1 + 0 ≤ 609960 by omega, show slots + 6 + 0 ≤ 7266223 by omega⟩ dL_law_1328 (fun H locs hB hS1 hz hkk => ?_)
  have hT := lt_m hX hM hx0 hm0 hdj hoL hoM hO hob ⟨L', ly', ad', hB, hm0, fun q h => Or.inl h⟩ hkk hS1
  obtain ⟨ly, L, ad, ly', L', ad', hX, hM, hx0, hm0, hdj, hoL, hoM, hO, hob, hS⟩ := hT
  have hLb := hX.2.2.1
  have hLbM := hM.2.2.1
  have hz0 : ∀ q, H.size ≤ q → bA E q := fun q z => by show E.2 0 ≤ q; rw [hE0]; exact Nat.le_trans hS.1 z
  refine lv_istore (lv' := [(6, .int (nI 0)), (5, .int (nI 1)), (4, .int (nI ii)), (0, .ref bb), (1, .ref x), (2, .ref mm), (3, .ref out)]) hx hb dL_law_1331 hl (by decide) rfl (fun ls hl => ?_)
  refine lv_aload_n hx hb dL_law_1333 rfl (lv_at hl 5 rfl) ?_
  have hMt := mX7_thrown l hM
  rw [hm0] at hMt
  refine ro_V (As := []) (h0 := mm) (rest := []) (v := nI 1) hx hb hml hown hC hS hAb hMt kV_L_98 ⟨rfl, rfl⟩ ⟨Nat.le_of_ble_eq_true rfl, Nat.le_of_ble_eq_true rfl⟩ (by rw [← hm0]; exact hM.1.recv hC cM_0 rfl) rfl hl (Nat.le_of_ble_eq_true rfl) ⟨show cells + 1 + 0 ≤ 609960 by omega, show slots + 6 + 0 ≤ 7266223 by omega⟩ dL_law_1334 ?_
  refine lv_iload hx hb dL_law_1337 (lv_at hl 1 rfl) ?_
  refine lv_icmp_eq (tgt := 1344) hx hb dL_law_1339 (by decide) (fun _ => ?_) (fun c9 => absurd rfl c9)
  refine lv_iload hx hb dL_law_1344 (lv_at hl 1 rfl) ?_
  have hT : LT E s.heap x mm out _ _ _ _ H locs := ⟨ly, L, ad, ly', L', ad', hX, hM, hx0, hm0, hdj, hoL, hoM, hO, hob, hS⟩
  refine lv_if_ne (tgt := 1361) hx hb dL_law_1346 (by decide) (fun _ => ?_) (fun c9 => absurd c9 (by decide))
  refine lv_goto (tgt := 1820) hx hb dL_law_1361 (by decide) ?_
  refine W.widen (k := cells + 1100) (n := slots + 14000) (by omega) (by omega) ?_
  exact kk _ _ _ _ _ _ hT (lv_sub hl [2, 3, 4, 5, 6] rfl)
set_option maxHeartbeats 4000000 in
set_option maxRecDepth 100000 in
theorem lc_likeness_g (C0 : LC p l s m co E bb Ln xs) {c : Cy} {th : Int32} {v0 : Int64} {H : Heap} {locs : List Loc} {x mm out : Nat} (hT : LT E s.heap x mm out c c th v0 H locs) {ii : Nat} (hii : ii + 7 ≤ Ln) {cells slots : Nat} (hcs : cells + 1100 ≤ 609960 ∧ slots + 14000 ≤ 7266223) {ls : Array Slot} (hl : lv_has ls 9 [(4, .int (nI ii)), (0, .ref bb), (1, .ref x), (2, .ref mm), (3, .ref out)]) (kk : KK p l e s m below meth co bb E Q x mm out ii cells slots) (j k : Nat) (hq1 : xs (ii + 1) = nI j) (hq2 : xs (ii + 2) = nI k) (hj : j < c.R 10 2) (hk : k < c.R 10 2) : W p l e room_1 s m #[Value.ref bb] below meth co H locs cells slots Q (F0 m 1364 ls []) := by
  obtain ⟨hx, hb, hml, hown, hC, hNc, hXs, hbl, hE0, hst, hLn⟩ := C0
  have hAb : ∀ q, bA E q → bA E q := fun _ h => h
  have hbb : ¬ bA E bb := by show ¬ E.2 0 ≤ bb; rw [hE0]; exact Nat.not_le.mpr hbl
  obtain ⟨ly, L, ad, ly', L', ad', hX, hM, hx0, hm0, hdj, hoL, hoM, hO, hob, hS⟩ := hT
  have hLb := hX.2.2.1
  have hLbM := hM.2.2.1
  have hz0 : ∀ q, H.size ≤ q → bA E q := fun q z => by show E.2 0 ≤ q; rw [hE0]; exact Nat.le_trans hS.1 z
  refine lv_aload_n hx hb dL_law_1364 rfl (lv_at hl 2 rfl) ?_
  refine lv_aload_n hx hb dL_law_1365 rfl (lv_at hl 1 rfl) ?_
  refine lv_iload hx hb dL_law_1366 (lv_at hl 0 rfl) ?_
  refine lv_iconstN hx hb 1 dL_law_1368 (by decide) ?_
  refine lv_iaddN hx hb dL_law_1369 ?_
  refine lw_sld hx hb hXs hbl hbb hS (show ii + 1 < Ln by omega) hLn dL_law_1370 ?_
  rw [hq1]
  refine lv_aload_n hx hb dL_law_1371 rfl (lv_at hl 1 rfl) ?_
  refine lv_iload hx hb dL_law_1372 (lv_at hl 0 rfl) ?_
  refine lv_iconstN hx hb 2 dL_law_1374 (by decide) ?_
  refine lv_iaddN hx hb dL_law_1375 ?_
  refine lw_sld hx hb hXs hbl hbb hS (show ii + 2 < Ln by omega) hLn dL_law_1376 ?_
  rw [hq2]
  refine lv_aload_n hx hb dL_law_1377 rfl (lv_at hl 4 rfl) ?_
  have hMt := mL_likeness_g l hX hO hoL hob j k hj hk
  rw [hx0] at hMt
  refine lw_S (As := [.ref x, .int (nI j), .int (nI k), .ref out]) (rest := []) hx hb hml hown hC hNc hS hAb hMt (fun q h => h.elim (hLb q) (fun h => h.elim (fun h => by rw [h]; exact hob) (hz0 q))) kW_L_154 ⟨rfl, rfl⟩ ⟨Nat.le_of_ble_eq_true rfl, Nat.le_of_ble_eq_true rfl⟩ rfl hl (Nat.le_of_ble_eq_true rfl) ⟨show cells + 0 ≤ 609960 by omega, show slots + 0 ≤ 7266223 by omega⟩ dL_law_1378 (fun H locs hB hS1 hz hkk => ?_)
  have hT := lt_x hX hM hx0 hm0 hdj hoL hoM hO hob hB hkk hS1
  obtain ⟨ly, L, ad, ly', L', ad', hX, hM, hx0, hm0, hdj, hoL, hoM, hO, hob, hS⟩ := hT
  have hLb := hX.2.2.1
  have hLbM := hM.2.2.1
  have hz0 : ∀ q, H.size ≤ q → bA E q := fun q z => by show E.2 0 ≤ q; rw [hE0]; exact Nat.le_trans hS.1 z
  refine lv_istore (lv' := [(5, .int (nI 0)), (4, .int (nI ii)), (0, .ref bb), (1, .ref x), (2, .ref mm), (3, .ref out)]) hx hb dL_law_1381 hl (by decide) rfl (fun ls hl => ?_)
  refine lv_aload_n hx hb dL_law_1383 rfl (lv_at hl 4 rfl) ?_
  refine lv_aload_n hx hb dL_law_1384 rfl (lv_at hl 2 rfl) ?_
  refine lv_iload hx hb dL_law_1385 (lv_at hl 1 rfl) ?_
  refine lv_iconstN hx hb 1 dL_law_1387 (by decide) ?_
  refine lv_iaddN hx hb dL_law_1388 ?_
  refine lw_sld hx hb hXs hbl hbb hS (show ii + 1 < Ln by omega) hLn dL_law_1389 ?_
  rw [hq1]
  refine lv_aload_n hx hb dL_law_1390 rfl (lv_at hl 2 rfl) ?_
  refine lv_iload hx hb dL_law_1391 (lv_at hl 1 rfl) ?_
  refine lv_iconstN hx hb 2 dL_law_1393 (by decide) ?_
  refine lv_iaddN hx hb dL_law_1394 ?_
  refine lw_sld hx hb hXs hbl hbb hS (show ii + 2 < Ln by omega) hLn dL_law_1395 ?_
  rw [hq2]
  have hMt := mX7_likeness_g l hM j k hj hk
  rw [hm0] at hMt
  refine mu_V (As := [.int (nI j), .int (nI k)]) (h0 := mm) (rest := []) (v := lkS c j k) hx hb hml hown hC hS hAb hMt (fun q h => h.elim (hLbM q) (hz0 q)) kV_L_156 ⟨rfl, rfl⟩ ⟨Nat.le_of_ble_eq_true rfl, Nat.le_of_ble_eq_true rfl⟩ (by rw [← hm0]; exact hM.1.recv hC cM_0 rfl) rfl hl (Nat.le_of_ble_eq_true rfl) ⟨show cells + 0 ≤ 609960 by omega, show slots + 0 ≤ 7266223 by omega⟩ dL_law_1396 (fun H locs hB hS1 hz hkk => ?_)
  have hT := lt_m hX hM hx0 hm0 hdj hoL hoM hO hob ⟨L', ly', ad', hB, hm0, fun q h => Or.inl h⟩ hkk hS1
  obtain ⟨ly, L, ad, ly', L', ad', hX, hM, hx0, hm0, hdj, hoL, hoM, hO, hob, hS⟩ := hT
  have hLb := hX.2.2.1
  have hLbM := hM.2.2.1
  have hz0 : ∀ q, H.size ≤ q → bA E q := fun q z => by show E.2 0 ≤ q; rw [hE0]; exact Nat.le_trans hS.1 z
  refine lv_istore (lv' := [(6, .int (lkS c j k)), (5, .int (nI 0)), (4, .int (nI ii)), (0, .ref bb), (1, .ref x), (2, .ref mm), (3, .ref out)]) hx hb dL_law_1399 hl (by decide) rfl (fun ls hl => ?_)
  refine lv_aload_n hx hb dL_law_1401 rfl (lv_at hl 5 rfl) ?_
  have hMt := mX7_thrown l hM
  rw [hm0] at hMt
  refine ro_V (As := []) (h0 := mm) (rest := []) (v := nI 0) hx hb hml hown hC hS hAb hMt kV_L_98 ⟨rfl, rfl⟩ ⟨Nat.le_of_ble_eq_true rfl, Nat.le_of_ble_eq_true rfl⟩ (by rw [← hm0]; exact hM.1.recv hC cM_0 rfl) rfl hl (Nat.le_of_ble_eq_true rfl) ⟨show cells + 0 ≤ 609960 by omega, show slots + 0 ≤ 7266223 by omega⟩ dL_law_1402 ?_
  refine lv_iload hx hb dL_law_1405 (lv_at hl 1 rfl) ?_
  refine lv_icmp_eq (tgt := 1412) hx hb dL_law_1407 (by decide) (fun _ => ?_) (fun c9 => absurd rfl c9)
  refine lv_iload hx hb dL_law_1412 (lv_at hl 1 rfl) ?_
  have hT : LT E s.heap x mm out _ _ _ _ H locs := ⟨ly, L, ad, ly', L', ad', hX, hM, hx0, hm0, hdj, hoL, hoM, hO, hob, hS⟩
  refine lv_if_ne (tgt := 1429) hx hb dL_law_1414 (by decide) (fun c9 => absurd (by decide) c9) (fun _ => ?_)
  refine lv_aload_n hx hb dL_law_1417 rfl (lv_at hl 6 rfl) ?_
  refine lv_iconstN hx hb 0 dL_law_1418 (by decide) ?_
  refine lw_lald hx hb hC hO dL_law_1419 ?_
  refine lv_iload hx hb dL_law_1420 (lv_at hl 0 rfl) ?_
  refine lv_i2l (v := (lkS c j k).toInt64) hx hb dL_law_1422 rfl ?_
  refine W.lcmp hx hb dL_law_1423 ?_
  rw [lg_self]
  refine lv_if_eq (tgt := 1429) hx hb dL_law_1424 (by decide) (fun _ => ?_) (fun c9 => absurd rfl c9)
  refine lv_goto (tgt := 1820) hx hb dL_law_1429 (by decide) ?_
  refine W.widen (k := cells + 1100) (n := slots + 14000) (by omega) (by omega) ?_
  exact kk _ _ _ _ _ _ hT (lv_sub hl [2, 3, 4, 5, 6] rfl)
set_option maxHeartbeats 4000000 in
set_option maxRecDepth 100000 in
theorem lc_likeness_b1 (C0 : LC p l s m co E bb Ln xs) {c : Cy} {th : Int32} {v0 : Int64} {H : Heap} {locs : List Loc} {x mm out : Nat} (hT : LT E s.heap x mm out c c th v0 H locs) {ii : Nat} (hii : ii + 7 ≤ Ln) {cells slots : Nat} (hcs : cells + 1100 ≤ 609960 ∧ slots + 14000 ≤ 7266223) {ls : Array Slot} (hl : lv_has ls 9 [(4, .int (nI ii)), (0, .ref bb), (1, .ref x), (2, .ref mm), (3, .ref out)]) (kk : KK p l e s m below meth co bb E Q x mm out ii cells slots) (v w : Int32) (hq1 : xs (ii + 1) = v) (hq2 : xs (ii + 2) = w) (hv : isInS v (nI 0) (nI (c.R 10 2) - nI 1) = false) : W p l e room_1 s m #[Value.ref bb] below meth co H locs cells slots Q (F0 m 1364 ls []) := by
  obtain ⟨hx, hb, hml, hown, hC, hNc, hXs, hbl, hE0, hst, hLn⟩ := C0
  have hAb : ∀ q, bA E q → bA E q := fun _ h => h
  have hbb : ¬ bA E bb := by show ¬ E.2 0 ≤ bb; rw [hE0]; exact Nat.not_le.mpr hbl
  obtain ⟨ly, L, ad, ly', L', ad', hX, hM, hx0, hm0, hdj, hoL, hoM, hO, hob, hS⟩ := hT
  have hLb := hX.2.2.1
  have hLbM := hM.2.2.1
  have hz0 : ∀ q, H.size ≤ q → bA E q := fun q z => by show E.2 0 ≤ q; rw [hE0]; exact Nat.le_trans hS.1 z
  refine lv_aload_n hx hb dL_law_1364 rfl (lv_at hl 2 rfl) ?_
  refine lv_aload_n hx hb dL_law_1365 rfl (lv_at hl 1 rfl) ?_
  refine lv_iload hx hb dL_law_1366 (lv_at hl 0 rfl) ?_
  refine lv_iconstN hx hb 1 dL_law_1368 (by decide) ?_
  refine lv_iaddN hx hb dL_law_1369 ?_
  refine lw_sld hx hb hXs hbl hbb hS (show ii + 1 < Ln by omega) hLn dL_law_1370 ?_
  rw [hq1]
  refine lv_aload_n hx hb dL_law_1371 rfl (lv_at hl 1 rfl) ?_
  refine lv_iload hx hb dL_law_1372 (lv_at hl 0 rfl) ?_
  refine lv_iconstN hx hb 2 dL_law_1374 (by decide) ?_
  refine lv_iaddN hx hb dL_law_1375 ?_
  refine lw_sld hx hb hXs hbl hbb hS (show ii + 2 < Ln by omega) hLn dL_law_1376 ?_
  rw [hq2]
  refine lv_aload_n hx hb dL_law_1377 rfl (lv_at hl 4 rfl) ?_
  have hMt := mL_likeness_b1 l hst hX hO hoL hob v w hv
  rw [hx0] at hMt
  refine lw_S (As := [.ref x, .int v, .int w, .ref out]) (rest := []) hx hb hml hown hC hNc hS hAb hMt (fun q h => h.elim (hLb q) (fun h => h.elim (fun h => by rw [h]; exact hob) (hz0 q))) kW_L_154 ⟨rfl, rfl⟩ ⟨Nat.le_of_ble_eq_true rfl, Nat.le_of_ble_eq_true rfl⟩ rfl hl (Nat.le_of_ble_eq_true rfl) ⟨show cells + 1 ≤ 609960 by omega, show slots + 6 ≤ 7266223 by omega⟩ dL_law_1378 (fun H locs hB hS1 hz hkk => ?_)
  have hT := lt_x hX hM hx0 hm0 hdj hoL hoM hO hob hB hkk hS1
  obtain ⟨ly, L, ad, ly', L', ad', hX, hM, hx0, hm0, hdj, hoL, hoM, hO, hob, hS⟩ := hT
  have hLb := hX.2.2.1
  have hLbM := hM.2.2.1
  have hz0 : ∀ q, H.size ≤ q → bA E q := fun q z => by show E.2 0 ≤ q; rw [hE0]; exact Nat.le_trans hS.1 z
  refine lv_istore (lv' := [(5, .int (nI 1)), (4, .int (nI ii)), (0, .ref bb), (1, .ref x), (2, .ref mm), (3, .ref out)]) hx hb dL_law_1381 hl (by decide) rfl (fun ls hl => ?_)
  refine lv_aload_n hx hb dL_law_1383 rfl (lv_at hl 4 rfl) ?_
  refine lv_aload_n hx hb dL_law_1384 rfl (lv_at hl 2 rfl) ?_
  refine lv_iload hx hb dL_law_1385 (lv_at hl 1 rfl) ?_
  refine lv_iconstN hx hb 1 dL_law_1387 (by decide) ?_
  refine lv_iaddN hx hb dL_law_1388 ?_
  refine lw_sld hx hb hXs hbl hbb hS (show ii + 1 < Ln by omega) hLn dL_law_1389 ?_
  rw [hq1]
  refine lv_aload_n hx hb dL_law_1390 rfl (lv_at hl 2 rfl) ?_
  refine lv_iload hx hb dL_law_1391 (lv_at hl 1 rfl) ?_
  refine lv_iconstN hx hb 2 dL_law_1393 (by decide) ?_
  refine lv_iaddN hx hb dL_law_1394 ?_
  refine lw_sld hx hb hXs hbl hbb hS (show ii + 2 < Ln by omega) hLn dL_law_1395 ?_
  rw [hq2]
  have hMt := mX7_likeness_b1 l hM v w (by rw [hv]; rfl)
  rw [hm0] at hMt
  refine mu_V (As := [.int v, .int w]) (h0 := mm) (rest := []) (v := nI 0) hx hb hml hown hC hS hAb hMt (fun q h => h.elim (hLbM q) (hz0 q)) kV_L_156 ⟨rfl, rfl⟩ ⟨Nat.le_of_ble_eq_true rfl, Nat.le_of_ble_eq_true rfl⟩ (by rw [← hm0]; exact hM.1.recv hC cM_0 rfl) rfl hl (Nat.le_of_ble_eq_true rfl) ⟨show cells + 1 + 0 ≤ 609960 by omega, show slots + 6 + 0 ≤ 7266223 by omega⟩ dL_law_1396 (fun H locs hB hS1 hz hkk => ?_)
  have hT := lt_m hX hM hx0 hm0 hdj hoL hoM hO hob ⟨L', ly', ad', hB, hm0, fun q h => Or.inl h⟩ hkk hS1
  obtain ⟨ly, L, ad, ly', L', ad', hX, hM, hx0, hm0, hdj, hoL, hoM, hO, hob, hS⟩ := hT
  have hLb := hX.2.2.1
  have hLbM := hM.2.2.1
  have hz0 : ∀ q, H.size ≤ q → bA E q := fun q z => by show E.2 0 ≤ q; rw [hE0]; exact Nat.le_trans hS.1 z
  refine lv_istore (lv' := [(6, .int (nI 0)), (5, .int (nI 1)), (4, .int (nI ii)), (0, .ref bb), (1, .ref x), (2, .ref mm), (3, .ref out)]) hx hb dL_law_1399 hl (by decide) rfl (fun ls hl => ?_)
  refine lv_aload_n hx hb dL_law_1401 rfl (lv_at hl 5 rfl) ?_
  have hMt := mX7_thrown l hM
  rw [hm0] at hMt
  refine ro_V (As := []) (h0 := mm) (rest := []) (v := nI 1) hx hb hml hown hC hS hAb hMt kV_L_98 ⟨rfl, rfl⟩ ⟨Nat.le_of_ble_eq_true rfl, Nat.le_of_ble_eq_true rfl⟩ (by rw [← hm0]; exact hM.1.recv hC cM_0 rfl) rfl hl (Nat.le_of_ble_eq_true rfl) ⟨show cells + 1 + 0 ≤ 609960 by omega, show slots + 6 + 0 ≤ 7266223 by omega⟩ dL_law_1402 ?_
  refine lv_iload hx hb dL_law_1405 (lv_at hl 1 rfl) ?_
  refine lv_icmp_eq (tgt := 1412) hx hb dL_law_1407 (by decide) (fun _ => ?_) (fun c9 => absurd rfl c9)
  refine lv_iload hx hb dL_law_1412 (lv_at hl 1 rfl) ?_
  have hT : LT E s.heap x mm out _ _ _ _ H locs := ⟨ly, L, ad, ly', L', ad', hX, hM, hx0, hm0, hdj, hoL, hoM, hO, hob, hS⟩
  refine lv_if_ne (tgt := 1429) hx hb dL_law_1414 (by decide) (fun _ => ?_) (fun c9 => absurd c9 (by decide))
  refine lv_goto (tgt := 1820) hx hb dL_law_1429 (by decide) ?_
  refine W.widen (k := cells + 1100) (n := slots + 14000) (by omega) (by omega) ?_
  exact kk _ _ _ _ _ _ hT (lv_sub hl [2, 3, 4, 5, 6] rfl)
set_option maxHeartbeats 4000000 in
set_option maxRecDepth 100000 in
theorem lc_likeness_b2 (C0 : LC p l s m co E bb Ln xs) {c : Cy} {th : Int32} {v0 : Int64} {H : Heap} {locs : List Loc} {x mm out : Nat} (hT : LT E s.heap x mm out c c th v0 H locs) {ii : Nat} (hii : ii + 7 ≤ Ln) {cells slots : Nat} (hcs : cells + 1100 ≤ 609960 ∧ slots + 14000 ≤ 7266223) {ls : Array Slot} (hl : lv_has ls 9 [(4, .int (nI ii)), (0, .ref bb), (1, .ref x), (2, .ref mm), (3, .ref out)]) (kk : KK p l e s m below meth co bb E Q x mm out ii cells slots) (j : Nat) (v : Int32) (hq1 : xs (ii + 1) = nI j) (hq2 : xs (ii + 2) = v) (hj : j < c.R 10 2) (hv : isInS v (nI 0) (nI (c.R 10 2) - nI 1) = false) : W p l e room_1 s m #[Value.ref bb] below meth co H locs cells slots Q (F0 m 1364 ls []) := by
  obtain ⟨hx, hb, hml, hown, hC, hNc, hXs, hbl, hE0, hst, hLn⟩ := C0
  have hAb : ∀ q, bA E q → bA E q := fun _ h => h
  have hbb : ¬ bA E bb := by show ¬ E.2 0 ≤ bb; rw [hE0]; exact Nat.not_le.mpr hbl
  obtain ⟨ly, L, ad, ly', L', ad', hX, hM, hx0, hm0, hdj, hoL, hoM, hO, hob, hS⟩ := hT
  have hLb := hX.2.2.1
  have hLbM := hM.2.2.1
  have hz0 : ∀ q, H.size ≤ q → bA E q := fun q z => by show E.2 0 ≤ q; rw [hE0]; exact Nat.le_trans hS.1 z
  refine lv_aload_n hx hb dL_law_1364 rfl (lv_at hl 2 rfl) ?_
  refine lv_aload_n hx hb dL_law_1365 rfl (lv_at hl 1 rfl) ?_
  refine lv_iload hx hb dL_law_1366 (lv_at hl 0 rfl) ?_
  refine lv_iconstN hx hb 1 dL_law_1368 (by decide) ?_
  refine lv_iaddN hx hb dL_law_1369 ?_
  refine lw_sld hx hb hXs hbl hbb hS (show ii + 1 < Ln by omega) hLn dL_law_1370 ?_
  rw [hq1]
  refine lv_aload_n hx hb dL_law_1371 rfl (lv_at hl 1 rfl) ?_
  refine lv_iload hx hb dL_law_1372 (lv_at hl 0 rfl) ?_
  refine lv_iconstN hx hb 2 dL_law_1374 (by decide) ?_
  refine lv_iaddN hx hb dL_law_1375 ?_
  refine lw_sld hx hb hXs hbl hbb hS (show ii + 2 < Ln by omega) hLn dL_law_1376 ?_
  rw [hq2]
  refine lv_aload_n hx hb dL_law_1377 rfl (lv_at hl 4 rfl) ?_
  have hMt := mL_likeness_b2 l hst hX hO hoL hob j v hj hv
  rw [hx0] at hMt
  refine lw_S (As := [.ref x, .int (nI j), .int v, .ref out]) (rest := []) hx hb hml hown hC hNc hS hAb hMt (fun q h => h.elim (hLb q) (fun h => h.elim (fun h => by rw [h]; exact hob) (hz0 q))) kW_L_154 ⟨rfl, rfl⟩ ⟨Nat.le_of_ble_eq_true rfl, Nat.le_of_ble_eq_true rfl⟩ rfl hl (Nat.le_of_ble_eq_true rfl) ⟨show cells + 1 ≤ 609960 by omega, show slots + 6 ≤ 7266223 by omega⟩ dL_law_1378 (fun H locs hB hS1 hz hkk => ?_)
  have hT := lt_x hX hM hx0 hm0 hdj hoL hoM hO hob hB hkk hS1
  obtain ⟨ly, L, ad, ly', L', ad', hX, hM, hx0, hm0, hdj, hoL, hoM, hO, hob, hS⟩ := hT
  have hLb := hX.2.2.1
  have hLbM := hM.2.2.1
  have hz0 : ∀ q, H.size ≤ q → bA E q := fun q z => by show E.2 0 ≤ q; rw [hE0]; exact Nat.le_trans hS.1 z
  refine lv_istore (lv' := [(5, .int (nI 1)), (4, .int (nI ii)), (0, .ref bb), (1, .ref x), (2, .ref mm), (3, .ref out)]) hx hb dL_law_1381 hl (by decide) rfl (fun ls hl => ?_)
  refine lv_aload_n hx hb dL_law_1383 rfl (lv_at hl 4 rfl) ?_
  refine lv_aload_n hx hb dL_law_1384 rfl (lv_at hl 2 rfl) ?_
  refine lv_iload hx hb dL_law_1385 (lv_at hl 1 rfl) ?_
  refine lv_iconstN hx hb 1 dL_law_1387 (by decide) ?_
  refine lv_iaddN hx hb dL_law_1388 ?_
  refine lw_sld hx hb hXs hbl hbb hS (show ii + 1 < Ln by omega) hLn dL_law_1389 ?_
  rw [hq1]
  refine lv_aload_n hx hb dL_law_1390 rfl (lv_at hl 2 rfl) ?_
  refine lv_iload hx hb dL_law_1391 (lv_at hl 1 rfl) ?_
  refine lv_iconstN hx hb 2 dL_law_1393 (by decide) ?_
  refine lv_iaddN hx hb dL_law_1394 ?_
  refine lw_sld hx hb hXs hbl hbb hS (show ii + 2 < Ln by omega) hLn dL_law_1395 ?_
  rw [hq2]
  have hMt := mX7_likeness_b1 l hM (nI j) v (by rw [hv, Bool.and_false])
  rw [hm0] at hMt
  refine mu_V (As := [.int (nI j), .int v]) (h0 := mm) (rest := []) (v := nI 0) hx hb hml hown hC hS hAb hMt (fun q h => h.elim (hLbM q) (hz0 q)) kV_L_156 ⟨rfl, rfl⟩ ⟨Nat.le_of_ble_eq_true rfl, Nat.le_of_ble_eq_true rfl⟩ (by rw [← hm0]; exact hM.1.recv hC cM_0 rfl) rfl hl (Nat.le_of_ble_eq_true rfl) ⟨show cells + 1 + 0 ≤ 609960 by omega, show slots + 6 + 0 ≤ 7266223 by omega⟩ dL_law_1396 (fun H locs hB hS1 hz hkk => ?_)
  have hT := lt_m hX hM hx0 hm0 hdj hoL hoM hO hob ⟨L', ly', ad', hB, hm0, fun q h => Or.inl h⟩ hkk hS1
  obtain ⟨ly, L, ad, ly', L', ad', hX, hM, hx0, hm0, hdj, hoL, hoM, hO, hob, hS⟩ := hT
  have hLb := hX.2.2.1
  have hLbM := hM.2.2.1
  have hz0 : ∀ q, H.size ≤ q → bA E q := fun q z => by show E.2 0 ≤ q; rw [hE0]; exact Nat.le_trans hS.1 z
  refine lv_istore (lv' := [(6, .int (nI 0)), (5, .int (nI 1)), (4, .int (nI ii)), (0, .ref bb), (1, .ref x), (2, .ref mm), (3, .ref out)]) hx hb dL_law_1399 hl (by decide) rfl (fun ls hl => ?_)
  refine lv_aload_n hx hb dL_law_1401 rfl (lv_at hl 5 rfl) ?_
  have hMt := mX7_thrown l hM
  rw [hm0] at hMt
  refine ro_V (As := []) (h0 := mm) (rest := []) (v := nI 1) hx hb hml hown hC hS hAb hMt kV_L_98 ⟨rfl, rfl⟩ ⟨Nat.le_of_ble_eq_true rfl, Nat.le_of_ble_eq_true rfl⟩ (by rw [← hm0]; exact hM.1.recv hC cM_0 rfl) rfl hl (Nat.le_of_ble_eq_true rfl) ⟨show cells + 1 + 0 ≤ 609960 by omega, show slots + 6 + 0 ≤ 7266223 by omega⟩ dL_law_1402 ?_
  refine lv_iload hx hb dL_law_1405 (lv_at hl 1 rfl) ?_
  refine lv_icmp_eq (tgt := 1412) hx hb dL_law_1407 (by decide) (fun _ => ?_) (fun c9 => absurd rfl c9)
  refine lv_iload hx hb dL_law_1412 (lv_at hl 1 rfl) ?_
  have hT : LT E s.heap x mm out _ _ _ _ H locs := ⟨ly, L, ad, ly', L', ad', hX, hM, hx0, hm0, hdj, hoL, hoM, hO, hob, hS⟩
  refine lv_if_ne (tgt := 1429) hx hb dL_law_1414 (by decide) (fun _ => ?_) (fun c9 => absurd c9 (by decide))
  refine lv_goto (tgt := 1820) hx hb dL_law_1429 (by decide) ?_
  refine W.widen (k := cells + 1100) (n := slots + 14000) (by omega) (by omega) ?_
  exact kk _ _ _ _ _ _ hT (lv_sub hl [2, 3, 4, 5, 6] rfl)
set_option maxHeartbeats 4000000 in
set_option maxRecDepth 100000 in
theorem lc_many_g (C0 : LC p l s m co E bb Ln xs) {c : Cy} {th : Int32} {v0 : Int64} {H : Heap} {locs : List Loc} {x mm out : Nat} (hT : LT E s.heap x mm out c c th v0 H locs) {ii : Nat} (hii : ii + 7 ≤ Ln) {cells slots : Nat} (hcs : cells + 1100 ≤ 609960 ∧ slots + 14000 ≤ 7266223) {ls : Array Slot} (hl : lv_has ls 9 [(4, .int (nI ii)), (0, .ref bb), (1, .ref x), (2, .ref mm), (3, .ref out)]) (kk : KK p l e s m below meth co bb E Q x mm out ii cells slots) (w : Nat) (hq1 : xs (ii + 1) = nI w) (hw : w ≤ 11) : W p l e room_1 s m #[Value.ref bb] below meth co H locs cells slots Q (F0 m 1432 ls []) := by
  obtain ⟨hx, hb, hml, hown, hC, hNc, hXs, hbl, hE0, hst, hLn⟩ := C0
  have hAb : ∀ q, bA E q → bA E q := fun _ h => h
  have hbb : ¬ bA E bb := by show ¬ E.2 0 ≤ bb; rw [hE0]; exact Nat.not_le.mpr hbl
  obtain ⟨ly, L, ad, ly', L', ad', hX, hM, hx0, hm0, hdj, hoL, hoM, hO, hob, hS⟩ := hT
  have hLb := hX.2.2.1
  have hLbM := hM.2.2.1
  have hz0 : ∀ q, H.size ≤ q → bA E q := fun q z => by show E.2 0 ≤ q; rw [hE0]; exact Nat.le_trans hS.1 z
  refine lv_aload_n hx hb dL_law_1432 rfl (lv_at hl 2 rfl) ?_
  refine lv_aload_n hx hb dL_law_1433 rfl (lv_at hl 1 rfl) ?_
  refine lv_iload hx hb dL_law_1434 (lv_at hl 0 rfl) ?_
  refine lv_iconstN hx hb 1 dL_law_1436 (by decide) ?_
  refine lv_iaddN hx hb dL_law_1437 ?_
  refine lw_sld hx hb hXs hbl hbb hS (show ii + 1 < Ln by omega) hLn dL_law_1438 ?_
  rw [hq1]
  refine lv_aload_n hx hb dL_law_1439 rfl (lv_at hl 4 rfl) ?_
  have hMt := mL_many_g l hX hO hoL hob w hw
  rw [hx0] at hMt
  refine lw_S (As := [.ref x, .int (nI w), .ref out]) (rest := []) hx hb hml hown hC hNc hS hAb hMt (fun q h => h.elim (hLb q) (fun h => h.elim (fun h => by rw [h]; exact hob) (hz0 q))) kW_L_157 ⟨rfl, rfl⟩ ⟨Nat.le_of_ble_eq_true rfl, Nat.le_of_ble_eq_true rfl⟩ rfl hl (Nat.le_of_ble_eq_true rfl) ⟨show cells + 0 ≤ 609960 by omega, show slots + 0 ≤ 7266223 by omega⟩ dL_law_1440 (fun H locs hB hS1 hz hkk => ?_)
  have hT := lt_x hX hM hx0 hm0 hdj hoL hoM hO hob hB hkk hS1
  obtain ⟨ly, L, ad, ly', L', ad', hX, hM, hx0, hm0, hdj, hoL, hoM, hO, hob, hS⟩ := hT
  have hLb := hX.2.2.1
  have hLbM := hM.2.2.1
  have hz0 : ∀ q, H.size ≤ q → bA E q := fun q z => by show E.2 0 ≤ q; rw [hE0]; exact Nat.le_trans hS.1 z
  refine lv_istore (lv' := [(5, .int (nI 0)), (4, .int (nI ii)), (0, .ref bb), (1, .ref x), (2, .ref mm), (3, .ref out)]) hx hb dL_law_1443 hl (by decide) rfl (fun ls hl => ?_)
  refine lv_aload_n hx hb dL_law_1445 rfl (lv_at hl 4 rfl) ?_
  refine lv_aload_n hx hb dL_law_1446 rfl (lv_at hl 2 rfl) ?_
  refine lv_iload hx hb dL_law_1447 (lv_at hl 1 rfl) ?_
  refine lv_iconstN hx hb 1 dL_law_1449 (by decide) ?_
  refine lv_iaddN hx hb dL_law_1450 ?_
  refine lw_sld hx hb hXs hbl hbb hS (show ii + 1 < Ln by omega) hLn dL_law_1451 ?_
  rw [hq1]
  have hMt := mX7_many_g l hM w hw
  rw [hm0] at hMt
  refine mu_V (As := [.int (nI w)]) (h0 := mm) (rest := []) (v := maS c (nI w)) hx hb hml hown hC hS hAb hMt (fun q h => h.elim (hLbM q) (hz0 q)) kV_L_159 ⟨rfl, rfl⟩ ⟨Nat.le_of_ble_eq_true rfl, Nat.le_of_ble_eq_true rfl⟩ (by rw [← hm0]; exact hM.1.recv hC cM_0 rfl) rfl hl (Nat.le_of_ble_eq_true rfl) ⟨show cells + 8 ≤ 609960 by omega, show slots + 32 ≤ 7266223 by omega⟩ dL_law_1452 (fun H locs hB hS1 hz hkk => ?_)
  have hT := lt_m hX hM hx0 hm0 hdj hoL hoM hO hob ⟨L', ly', ad', hB, hm0, fun q h => Or.inl h⟩ hkk hS1
  obtain ⟨ly, L, ad, ly', L', ad', hX, hM, hx0, hm0, hdj, hoL, hoM, hO, hob, hS⟩ := hT
  have hLb := hX.2.2.1
  have hLbM := hM.2.2.1
  have hz0 : ∀ q, H.size ≤ q → bA E q := fun q z => by show E.2 0 ≤ q; rw [hE0]; exact Nat.le_trans hS.1 z
  refine lv_istore (lv' := [(6, .int (maS c (nI w))), (5, .int (nI 0)), (4, .int (nI ii)), (0, .ref bb), (1, .ref x), (2, .ref mm), (3, .ref out)]) hx hb dL_law_1455 hl (by decide) rfl (fun ls hl => ?_)
  refine lv_aload_n hx hb dL_law_1457 rfl (lv_at hl 5 rfl) ?_
  have hMt := mX7_thrown l hM
  rw [hm0] at hMt
  refine ro_V (As := []) (h0 := mm) (rest := []) (v := nI 0) hx hb hml hown hC hS hAb hMt kV_L_98 ⟨rfl, rfl⟩ ⟨Nat.le_of_ble_eq_true rfl, Nat.le_of_ble_eq_true rfl⟩ (by rw [← hm0]; exact hM.1.recv hC cM_0 rfl) rfl hl (Nat.le_of_ble_eq_true rfl) ⟨show cells + 8 + 0 ≤ 609960 by omega, show slots + 32 + 0 ≤ 7266223 by omega⟩ dL_law_1458 ?_
  refine lv_iload hx hb dL_law_1461 (lv_at hl 1 rfl) ?_
  refine lv_icmp_eq (tgt := 1468) hx hb dL_law_1463 (by decide) (fun _ => ?_) (fun c9 => absurd rfl c9)
  refine lv_iload hx hb dL_law_1468 (lv_at hl 1 rfl) ?_
  have hT : LT E s.heap x mm out _ _ _ _ H locs := ⟨ly, L, ad, ly', L', ad', hX, hM, hx0, hm0, hdj, hoL, hoM, hO, hob, hS⟩
  refine lv_if_ne (tgt := 1485) hx hb dL_law_1470 (by decide) (fun c9 => absurd (by decide) c9) (fun _ => ?_)
  refine lv_aload_n hx hb dL_law_1473 rfl (lv_at hl 6 rfl) ?_
  refine lv_iconstN hx hb 0 dL_law_1474 (by decide) ?_
  refine lw_lald hx hb hC hO dL_law_1475 ?_
  refine lv_iload hx hb dL_law_1476 (lv_at hl 0 rfl) ?_
  refine lv_i2l (v := (maS c (nI w)).toInt64) hx hb dL_law_1478 rfl ?_
  refine W.lcmp hx hb dL_law_1479 ?_
  rw [lg_self]
  refine lv_if_eq (tgt := 1485) hx hb dL_law_1480 (by decide) (fun _ => ?_) (fun c9 => absurd rfl c9)
  refine lv_goto (tgt := 1820) hx hb dL_law_1485 (by decide) ?_
  refine W.widen (k := cells + 1100) (n := slots + 14000) (by omega) (by omega) ?_
  exact kk _ _ _ _ _ _ hT (lv_sub hl [2, 3, 4, 5, 6] rfl)
set_option maxHeartbeats 4000000 in
set_option maxRecDepth 100000 in
theorem lc_many_b (C0 : LC p l s m co E bb Ln xs) {c : Cy} {th : Int32} {v0 : Int64} {H : Heap} {locs : List Loc} {x mm out : Nat} (hT : LT E s.heap x mm out c c th v0 H locs) {ii : Nat} (hii : ii + 7 ≤ Ln) {cells slots : Nat} (hcs : cells + 1100 ≤ 609960 ∧ slots + 14000 ≤ 7266223) {ls : Array Slot} (hl : lv_has ls 9 [(4, .int (nI ii)), (0, .ref bb), (1, .ref x), (2, .ref mm), (3, .ref out)]) (kk : KK p l e s m below meth co bb E Q x mm out ii cells slots) (w : Int32) (hq1 : xs (ii + 1) = w) (hw : isInS w (nI 0) (nI 11) = false) : W p l e room_1 s m #[Value.ref bb] below meth co H locs cells slots Q (F0 m 1432 ls []) := by
  obtain ⟨hx, hb, hml, hown, hC, hNc, hXs, hbl, hE0, hst, hLn⟩ := C0
  have hAb : ∀ q, bA E q → bA E q := fun _ h => h
  have hbb : ¬ bA E bb := by show ¬ E.2 0 ≤ bb; rw [hE0]; exact Nat.not_le.mpr hbl
  obtain ⟨ly, L, ad, ly', L', ad', hX, hM, hx0, hm0, hdj, hoL, hoM, hO, hob, hS⟩ := hT
  have hLb := hX.2.2.1
  have hLbM := hM.2.2.1
  have hz0 : ∀ q, H.size ≤ q → bA E q := fun q z => by show E.2 0 ≤ q; rw [hE0]; exact Nat.le_trans hS.1 z
  refine lv_aload_n hx hb dL_law_1432 rfl (lv_at hl 2 rfl) ?_
  refine lv_aload_n hx hb dL_law_1433 rfl (lv_at hl 1 rfl) ?_
  refine lv_iload hx hb dL_law_1434 (lv_at hl 0 rfl) ?_
  refine lv_iconstN hx hb 1 dL_law_1436 (by decide) ?_
  refine lv_iaddN hx hb dL_law_1437 ?_
  refine lw_sld hx hb hXs hbl hbb hS (show ii + 1 < Ln by omega) hLn dL_law_1438 ?_
  rw [hq1]
  refine lv_aload_n hx hb dL_law_1439 rfl (lv_at hl 4 rfl) ?_
  have hMt := mL_many_b l hst hX hO hoL hob w hw
  rw [hx0] at hMt
  refine lw_S (As := [.ref x, .int w, .ref out]) (rest := []) hx hb hml hown hC hNc hS hAb hMt (fun q h => h.elim (hLb q) (fun h => h.elim (fun h => by rw [h]; exact hob) (hz0 q))) kW_L_157 ⟨rfl, rfl⟩ ⟨Nat.le_of_ble_eq_true rfl, Nat.le_of_ble_eq_true rfl⟩ rfl hl (Nat.le_of_ble_eq_true rfl) ⟨show cells + 1 ≤ 609960 by omega, show slots + 6 ≤ 7266223 by omega⟩ dL_law_1440 (fun H locs hB hS1 hz hkk => ?_)
  have hT := lt_x hX hM hx0 hm0 hdj hoL hoM hO hob hB hkk hS1
  obtain ⟨ly, L, ad, ly', L', ad', hX, hM, hx0, hm0, hdj, hoL, hoM, hO, hob, hS⟩ := hT
  have hLb := hX.2.2.1
  have hLbM := hM.2.2.1
  have hz0 : ∀ q, H.size ≤ q → bA E q := fun q z => by show E.2 0 ≤ q; rw [hE0]; exact Nat.le_trans hS.1 z
  refine lv_istore (lv' := [(5, .int (nI 1)), (4, .int (nI ii)), (0, .ref bb), (1, .ref x), (2, .ref mm), (3, .ref out)]) hx hb dL_law_1443 hl (by decide) rfl (fun ls hl => ?_)
  refine lv_aload_n hx hb dL_law_1445 rfl (lv_at hl 4 rfl) ?_
  refine lv_aload_n hx hb dL_law_1446 rfl (lv_at hl 2 rfl) ?_
  refine lv_iload hx hb dL_law_1447 (lv_at hl 1 rfl) ?_
  refine lv_iconstN hx hb 1 dL_law_1449 (by decide) ?_
  refine lv_iaddN hx hb dL_law_1450 ?_
  refine lw_sld hx hb hXs hbl hbb hS (show ii + 1 < Ln by omega) hLn dL_law_1451 ?_
  rw [hq1]
  have hMt := mX7_many_b l hM w hw
  rw [hm0] at hMt
  refine mu_V (As := [.int w]) (h0 := mm) (rest := []) (v := nI 0) hx hb hml hown hC hS hAb hMt (fun q h => h.elim (hLbM q) (hz0 q)) kV_L_159 ⟨rfl, rfl⟩ ⟨Nat.le_of_ble_eq_true rfl, Nat.le_of_ble_eq_true rfl⟩ (by rw [← hm0]; exact hM.1.recv hC cM_0 rfl) rfl hl (Nat.le_of_ble_eq_true rfl) ⟨show cells + 1 + 0 ≤ 609960 by omega, show slots + 6 + 0 ≤ 7266223 by omega⟩ dL_law_1452 (fun H locs hB hS1 hz hkk => ?_)
  have hT := lt_m hX hM hx0 hm0 hdj hoL hoM hO hob ⟨L', ly', ad', hB, hm0, fun q h => Or.inl h⟩ hkk hS1
  obtain ⟨ly, L, ad, ly', L', ad', hX, hM, hx0, hm0, hdj, hoL, hoM, hO, hob, hS⟩ := hT
  have hLb := hX.2.2.1
  have hLbM := hM.2.2.1
  have hz0 : ∀ q, H.size ≤ q → bA E q := fun q z => by show E.2 0 ≤ q; rw [hE0]; exact Nat.le_trans hS.1 z
  refine lv_istore (lv' := [(6, .int (nI 0)), (5, .int (nI 1)), (4, .int (nI ii)), (0, .ref bb), (1, .ref x), (2, .ref mm), (3, .ref out)]) hx hb dL_law_1455 hl (by decide) rfl (fun ls hl => ?_)
  refine lv_aload_n hx hb dL_law_1457 rfl (lv_at hl 5 rfl) ?_
  have hMt := mX7_thrown l hM
  rw [hm0] at hMt
  refine ro_V (As := []) (h0 := mm) (rest := []) (v := nI 1) hx hb hml hown hC hS hAb hMt kV_L_98 ⟨rfl, rfl⟩ ⟨Nat.le_of_ble_eq_true rfl, Nat.le_of_ble_eq_true rfl⟩ (by rw [← hm0]; exact hM.1.recv hC cM_0 rfl) rfl hl (Nat.le_of_ble_eq_true rfl) ⟨show cells + 1 + 0 ≤ 609960 by omega, show slots + 6 + 0 ≤ 7266223 by omega⟩ dL_law_1458 ?_
  refine lv_iload hx hb dL_law_1461 (lv_at hl 1 rfl) ?_
  refine lv_icmp_eq (tgt := 1468) hx hb dL_law_1463 (by decide) (fun _ => ?_) (fun c9 => absurd rfl c9)
  refine lv_iload hx hb dL_law_1468 (lv_at hl 1 rfl) ?_
  have hT : LT E s.heap x mm out _ _ _ _ H locs := ⟨ly, L, ad, ly', L', ad', hX, hM, hx0, hm0, hdj, hoL, hoM, hO, hob, hS⟩
  refine lv_if_ne (tgt := 1485) hx hb dL_law_1470 (by decide) (fun _ => ?_) (fun c9 => absurd c9 (by decide))
  refine lv_goto (tgt := 1820) hx hb dL_law_1485 (by decide) ?_
  refine W.widen (k := cells + 1100) (n := slots + 14000) (by omega) (by omega) ?_
  exact kk _ _ _ _ _ _ hT (lv_sub hl [2, 3, 4, 5, 6] rfl)
set_option maxHeartbeats 4000000 in
set_option maxRecDepth 100000 in
theorem lc_bestFrom_g (C0 : LC p l s m co E bb Ln xs) {c : Cy} {th : Int32} {v0 : Int64} {H : Heap} {locs : List Loc} {x mm out : Nat} (hT : LT E s.heap x mm out c c th v0 H locs) {ii : Nat} (hii : ii + 7 ≤ Ln) {cells slots : Nat} (hcs : cells + 1100 ≤ 609960 ∧ slots + 14000 ≤ 7266223) {ls : Array Slot} (hl : lv_has ls 9 [(4, .int (nI ii)), (0, .ref bb), (1, .ref x), (2, .ref mm), (3, .ref out)]) (kk : KK p l e s m below meth co bb E Q x mm out ii cells slots) (h i u kd : Nat) (hq1 : xs (ii + 1) = nI h) (hq2 : xs (ii + 2) = nI i) (hq3 : xs (ii + 3) = nI u) (hq4 : xs (ii + 4) = nI kd) (hh : h < c.R 10 1) (hi : i < c.R 10 0) (hu1 : 1 ≤ u) (hu : u ≤ 16) (hkd : kd < 4) : W p l e room_1 s m #[Value.ref bb] below meth co H locs cells slots Q (F0 m 1529 ls []) := by
  obtain ⟨hx, hb, hml, hown, hC, hNc, hXs, hbl, hE0, hst, hLn⟩ := C0
  have hAb : ∀ q, bA E q → bA E q := fun _ h => h
  have hbb : ¬ bA E bb := by show ¬ E.2 0 ≤ bb; rw [hE0]; exact Nat.not_le.mpr hbl
  obtain ⟨ly, L, ad, ly', L', ad', hX, hM, hx0, hm0, hdj, hoL, hoM, hO, hob, hS⟩ := hT
  have hLb := hX.2.2.1
  have hLbM := hM.2.2.1
  have hz0 : ∀ q, H.size ≤ q → bA E q := fun q z => by show E.2 0 ≤ q; rw [hE0]; exact Nat.le_trans hS.1 z
  refine lv_aload_n hx hb dL_law_1529 rfl (lv_at hl 2 rfl) ?_
  refine lv_aload_n hx hb dL_law_1530 rfl (lv_at hl 1 rfl) ?_
  refine lv_iload hx hb dL_law_1531 (lv_at hl 0 rfl) ?_
  refine lv_iconstN hx hb 1 dL_law_1533 (by decide) ?_
  refine lv_iaddN hx hb dL_law_1534 ?_
  refine lw_sld hx hb hXs hbl hbb hS (show ii + 1 < Ln by omega) hLn dL_law_1535 ?_
  rw [hq1]
  refine lv_aload_n hx hb dL_law_1536 rfl (lv_at hl 1 rfl) ?_
  refine lv_iload hx hb dL_law_1537 (lv_at hl 0 rfl) ?_
  refine lv_iconstN hx hb 2 dL_law_1539 (by decide) ?_
  refine lv_iaddN hx hb dL_law_1540 ?_
  refine lw_sld hx hb hXs hbl hbb hS (show ii + 2 < Ln by omega) hLn dL_law_1541 ?_
  rw [hq2]
  refine lv_aload_n hx hb dL_law_1542 rfl (lv_at hl 1 rfl) ?_
  refine lv_iload hx hb dL_law_1543 (lv_at hl 0 rfl) ?_
  refine lv_iconstN hx hb 3 dL_law_1545 (by decide) ?_
  refine lv_iaddN hx hb dL_law_1546 ?_
  refine lw_sld hx hb hXs hbl hbb hS (show ii + 3 < Ln by omega) hLn dL_law_1547 ?_
  rw [hq3]
  refine lv_aload_n hx hb dL_law_1548 rfl (lv_at hl 1 rfl) ?_
  refine lv_iload hx hb dL_law_1549 (lv_at hl 0 rfl) ?_
  refine lv_iconstN hx hb 4 dL_law_1551 (by decide) ?_
  refine lv_iaddN hx hb dL_law_1552 ?_
  refine lw_sld hx hb hXs hbl hbb hS (show ii + 4 < Ln by omega) hLn dL_law_1553 ?_
  rw [hq4]
  refine lv_aload_n hx hb dL_law_1554 rfl (lv_at hl 4 rfl) ?_
  have hMt := mL_bestFrom_g l hX hO hoL hob h i u kd hh hi hu1 hu hkd
  rw [hx0] at hMt
  refine lw_S (As := [.ref x, .int (nI h), .int (nI i), .int (nI u), .int (nI kd), .ref out]) (rest := []) hx hb hml hown hC hNc hS hAb hMt (fun q h => h.elim (hLb q) (fun h => h.elim (fun h => by rw [h]; exact hob) (hz0 q))) kW_L_165 ⟨rfl, rfl⟩ ⟨Nat.le_of_ble_eq_true rfl, Nat.le_of_ble_eq_true rfl⟩ rfl hl (Nat.le_of_ble_eq_true rfl) ⟨show cells + 0 ≤ 609960 by omega, show slots + 0 ≤ 7266223 by omega⟩ dL_law_1555 (fun H locs hB hS1 hz hkk => ?_)
  have hT := lt_x hX hM hx0 hm0 hdj hoL hoM hO hob hB hkk hS1
  obtain ⟨ly, L, ad, ly', L', ad', hX, hM, hx0, hm0, hdj, hoL, hoM, hO, hob, hS⟩ := hT
  have hLb := hX.2.2.1
  have hLbM := hM.2.2.1
  have hz0 : ∀ q, H.size ≤ q → bA E q := fun q z => by show E.2 0 ≤ q; rw [hE0]; exact Nat.le_trans hS.1 z
  refine lv_istore (lv' := [(5, .int (nI 0)), (4, .int (nI ii)), (0, .ref bb), (1, .ref x), (2, .ref mm), (3, .ref out)]) hx hb dL_law_1558 hl (by decide) rfl (fun ls hl => ?_)
  refine lv_aload_n hx hb dL_law_1560 rfl (lv_at hl 4 rfl) ?_
  refine lv_aload_n hx hb dL_law_1561 rfl (lv_at hl 2 rfl) ?_
  refine lv_iload hx hb dL_law_1562 (lv_at hl 1 rfl) ?_
  refine lv_iconstN hx hb 1 dL_law_1564 (by decide) ?_
  refine lv_iaddN hx hb dL_law_1565 ?_
  refine lw_sld hx hb hXs hbl hbb hS (show ii + 1 < Ln by omega) hLn dL_law_1566 ?_
  rw [hq1]
  refine lv_aload_n hx hb dL_law_1567 rfl (lv_at hl 2 rfl) ?_
  refine lv_iload hx hb dL_law_1568 (lv_at hl 1 rfl) ?_
  refine lv_iconstN hx hb 2 dL_law_1570 (by decide) ?_
  refine lv_iaddN hx hb dL_law_1571 ?_
  refine lw_sld hx hb hXs hbl hbb hS (show ii + 2 < Ln by omega) hLn dL_law_1572 ?_
  rw [hq2]
  refine lv_aload_n hx hb dL_law_1573 rfl (lv_at hl 2 rfl) ?_
  refine lv_iload hx hb dL_law_1574 (lv_at hl 1 rfl) ?_
  refine lv_iconstN hx hb 3 dL_law_1576 (by decide) ?_
  refine lv_iaddN hx hb dL_law_1577 ?_
  refine lw_sld hx hb hXs hbl hbb hS (show ii + 3 < Ln by omega) hLn dL_law_1578 ?_
  rw [hq3]
  refine lv_aload_n hx hb dL_law_1579 rfl (lv_at hl 2 rfl) ?_
  refine lv_iload hx hb dL_law_1580 (lv_at hl 1 rfl) ?_
  refine lv_iconstN hx hb 4 dL_law_1582 (by decide) ?_
  refine lv_iaddN hx hb dL_law_1583 ?_
  refine lw_sld hx hb hXs hbl hbb hS (show ii + 4 < Ln by omega) hLn dL_law_1584 ?_
  rw [hq4]
  have hMt := mX7_bestFrom_g l hM h i u kd hh hi hu1 hu hkd
  rw [hm0] at hMt
  refine mu_V (As := [.int (nI h), .int (nI i), .int (nI u), .int (nI kd)]) (h0 := mm) (rest := []) (v := bfS c h i u kd) hx hb hml hown hC hS hAb hMt (fun q h => h.elim (hLbM q) (hz0 q)) kV_L_167 ⟨rfl, rfl⟩ ⟨Nat.le_of_ble_eq_true rfl, Nat.le_of_ble_eq_true rfl⟩ (by rw [← hm0]; exact hM.1.recv hC cM_0 rfl) rfl hl (Nat.le_of_ble_eq_true rfl) ⟨show cells + 0 ≤ 609960 by omega, show slots + 0 ≤ 7266223 by omega⟩ dL_law_1585 (fun H locs hB hS1 hz hkk => ?_)
  have hT := lt_m hX hM hx0 hm0 hdj hoL hoM hO hob ⟨L', ly', ad', hB, hm0, fun q h => Or.inl h⟩ hkk hS1
  obtain ⟨ly, L, ad, ly', L', ad', hX, hM, hx0, hm0, hdj, hoL, hoM, hO, hob, hS⟩ := hT
  have hLb := hX.2.2.1
  have hLbM := hM.2.2.1
  have hz0 : ∀ q, H.size ≤ q → bA E q := fun q z => by show E.2 0 ≤ q; rw [hE0]; exact Nat.le_trans hS.1 z
  refine lv_istore (lv' := [(6, .int (bfS c h i u kd)), (5, .int (nI 0)), (4, .int (nI ii)), (0, .ref bb), (1, .ref x), (2, .ref mm), (3, .ref out)]) hx hb dL_law_1588 hl (by decide) rfl (fun ls hl => ?_)
  refine lv_aload_n hx hb dL_law_1590 rfl (lv_at hl 5 rfl) ?_
  have hMt := mX7_thrown l hM
  rw [hm0] at hMt
  refine ro_V (As := []) (h0 := mm) (rest := []) (v := nI 0) hx hb hml hown hC hS hAb hMt kV_L_98 ⟨rfl, rfl⟩ ⟨Nat.le_of_ble_eq_true rfl, Nat.le_of_ble_eq_true rfl⟩ (by rw [← hm0]; exact hM.1.recv hC cM_0 rfl) rfl hl (Nat.le_of_ble_eq_true rfl) ⟨show cells + 0 ≤ 609960 by omega, show slots + 0 ≤ 7266223 by omega⟩ dL_law_1591 ?_
  refine lv_iload hx hb dL_law_1594 (lv_at hl 1 rfl) ?_
  refine lv_icmp_eq (tgt := 1601) hx hb dL_law_1596 (by decide) (fun _ => ?_) (fun c9 => absurd rfl c9)
  refine lv_iload hx hb dL_law_1601 (lv_at hl 1 rfl) ?_
  have hT : LT E s.heap x mm out _ _ _ _ H locs := ⟨ly, L, ad, ly', L', ad', hX, hM, hx0, hm0, hdj, hoL, hoM, hO, hob, hS⟩
  refine lv_if_ne (tgt := 1618) hx hb dL_law_1603 (by decide) (fun c9 => absurd (by decide) c9) (fun _ => ?_)
  refine lv_aload_n hx hb dL_law_1606 rfl (lv_at hl 6 rfl) ?_
  refine lv_iconstN hx hb 0 dL_law_1607 (by decide) ?_
  refine lw_lald hx hb hC hO dL_law_1608 ?_
  refine lv_iload hx hb dL_law_1609 (lv_at hl 0 rfl) ?_
  refine lv_i2l (v := (bfS c h i u kd).toInt64) hx hb dL_law_1611 rfl ?_
  refine W.lcmp hx hb dL_law_1612 ?_
  rw [lg_self]
  refine lv_if_eq (tgt := 1618) hx hb dL_law_1613 (by decide) (fun _ => ?_) (fun c9 => absurd rfl c9)
  refine lv_goto (tgt := 1820) hx hb dL_law_1618 (by decide) ?_
  refine W.widen (k := cells + 1100) (n := slots + 14000) (by omega) (by omega) ?_
  exact kk _ _ _ _ _ _ hT (lv_sub hl [2, 3, 4, 5, 6] rfl)
set_option maxHeartbeats 4000000 in
set_option maxRecDepth 100000 in
theorem lc_bestFrom_b1 (C0 : LC p l s m co E bb Ln xs) {c : Cy} {th : Int32} {v0 : Int64} {H : Heap} {locs : List Loc} {x mm out : Nat} (hT : LT E s.heap x mm out c c th v0 H locs) {ii : Nat} (hii : ii + 7 ≤ Ln) {cells slots : Nat} (hcs : cells + 1100 ≤ 609960 ∧ slots + 14000 ≤ 7266223) {ls : Array Slot} (hl : lv_has ls 9 [(4, .int (nI ii)), (0, .ref bb), (1, .ref x), (2, .ref mm), (3, .ref out)]) (kk : KK p l e s m below meth co bb E Q x mm out ii cells slots) (v w u kd : Int32) (hq1 : xs (ii + 1) = v) (hq2 : xs (ii + 2) = w) (hq3 : xs (ii + 3) = u) (hq4 : xs (ii + 4) = kd) (hv : isInS v (nI 0) (nI (c.R 10 1) - nI 1) = false) : W p l e room_1 s m #[Value.ref bb] below meth co H locs cells slots Q (F0 m 1529 ls []) := by
  obtain ⟨hx, hb, hml, hown, hC, hNc, hXs, hbl, hE0, hst, hLn⟩ := C0
  have hAb : ∀ q, bA E q → bA E q := fun _ h => h
  have hbb : ¬ bA E bb := by show ¬ E.2 0 ≤ bb; rw [hE0]; exact Nat.not_le.mpr hbl
  obtain ⟨ly, L, ad, ly', L', ad', hX, hM, hx0, hm0, hdj, hoL, hoM, hO, hob, hS⟩ := hT
  have hLb := hX.2.2.1
  have hLbM := hM.2.2.1
  have hz0 : ∀ q, H.size ≤ q → bA E q := fun q z => by show E.2 0 ≤ q; rw [hE0]; exact Nat.le_trans hS.1 z
  refine lv_aload_n hx hb dL_law_1529 rfl (lv_at hl 2 rfl) ?_
  refine lv_aload_n hx hb dL_law_1530 rfl (lv_at hl 1 rfl) ?_
  refine lv_iload hx hb dL_law_1531 (lv_at hl 0 rfl) ?_
  refine lv_iconstN hx hb 1 dL_law_1533 (by decide) ?_
  refine lv_iaddN hx hb dL_law_1534 ?_
  refine lw_sld hx hb hXs hbl hbb hS (show ii + 1 < Ln by omega) hLn dL_law_1535 ?_
  rw [hq1]
  refine lv_aload_n hx hb dL_law_1536 rfl (lv_at hl 1 rfl) ?_
  refine lv_iload hx hb dL_law_1537 (lv_at hl 0 rfl) ?_
  refine lv_iconstN hx hb 2 dL_law_1539 (by decide) ?_
  refine lv_iaddN hx hb dL_law_1540 ?_
  refine lw_sld hx hb hXs hbl hbb hS (show ii + 2 < Ln by omega) hLn dL_law_1541 ?_
  rw [hq2]
  refine lv_aload_n hx hb dL_law_1542 rfl (lv_at hl 1 rfl) ?_
  refine lv_iload hx hb dL_law_1543 (lv_at hl 0 rfl) ?_
  refine lv_iconstN hx hb 3 dL_law_1545 (by decide) ?_
  refine lv_iaddN hx hb dL_law_1546 ?_
  refine lw_sld hx hb hXs hbl hbb hS (show ii + 3 < Ln by omega) hLn dL_law_1547 ?_
  rw [hq3]
  refine lv_aload_n hx hb dL_law_1548 rfl (lv_at hl 1 rfl) ?_
  refine lv_iload hx hb dL_law_1549 (lv_at hl 0 rfl) ?_
  refine lv_iconstN hx hb 4 dL_law_1551 (by decide) ?_
  refine lv_iaddN hx hb dL_law_1552 ?_
  refine lw_sld hx hb hXs hbl hbb hS (show ii + 4 < Ln by omega) hLn dL_law_1553 ?_
  rw [hq4]
  refine lv_aload_n hx hb dL_law_1554 rfl (lv_at hl 4 rfl) ?_
  have hMt := mL_bestFrom_b1 l hst hX hO hoL hob v w u kd hv
  rw [hx0] at hMt
  refine lw_S (As := [.ref x, .int v, .int w, .int u, .int kd, .ref out]) (rest := []) hx hb hml hown hC hNc hS hAb hMt (fun q h => h.elim (hLb q) (fun h => h.elim (fun h => by rw [h]; exact hob) (hz0 q))) kW_L_165 ⟨rfl, rfl⟩ ⟨Nat.le_of_ble_eq_true rfl, Nat.le_of_ble_eq_true rfl⟩ rfl hl (Nat.le_of_ble_eq_true rfl) ⟨show cells + 1 ≤ 609960 by omega, show slots + 6 ≤ 7266223 by omega⟩ dL_law_1555 (fun H locs hB hS1 hz hkk => ?_)
  have hT := lt_x hX hM hx0 hm0 hdj hoL hoM hO hob hB hkk hS1
  obtain ⟨ly, L, ad, ly', L', ad', hX, hM, hx0, hm0, hdj, hoL, hoM, hO, hob, hS⟩ := hT
  have hLb := hX.2.2.1
  have hLbM := hM.2.2.1
  have hz0 : ∀ q, H.size ≤ q → bA E q := fun q z => by show E.2 0 ≤ q; rw [hE0]; exact Nat.le_trans hS.1 z
  refine lv_istore (lv' := [(5, .int (nI 1)), (4, .int (nI ii)), (0, .ref bb), (1, .ref x), (2, .ref mm), (3, .ref out)]) hx hb dL_law_1558 hl (by decide) rfl (fun ls hl => ?_)
  refine lv_aload_n hx hb dL_law_1560 rfl (lv_at hl 4 rfl) ?_
  refine lv_aload_n hx hb dL_law_1561 rfl (lv_at hl 2 rfl) ?_
  refine lv_iload hx hb dL_law_1562 (lv_at hl 1 rfl) ?_
  refine lv_iconstN hx hb 1 dL_law_1564 (by decide) ?_
  refine lv_iaddN hx hb dL_law_1565 ?_
  refine lw_sld hx hb hXs hbl hbb hS (show ii + 1 < Ln by omega) hLn dL_law_1566 ?_
  rw [hq1]
  refine lv_aload_n hx hb dL_law_1567 rfl (lv_at hl 2 rfl) ?_
  refine lv_iload hx hb dL_law_1568 (lv_at hl 1 rfl) ?_
  refine lv_iconstN hx hb 2 dL_law_1570 (by decide) ?_
  refine lv_iaddN hx hb dL_law_1571 ?_
  refine lw_sld hx hb hXs hbl hbb hS (show ii + 2 < Ln by omega) hLn dL_law_1572 ?_
  rw [hq2]
  refine lv_aload_n hx hb dL_law_1573 rfl (lv_at hl 2 rfl) ?_
  refine lv_iload hx hb dL_law_1574 (lv_at hl 1 rfl) ?_
  refine lv_iconstN hx hb 3 dL_law_1576 (by decide) ?_
  refine lv_iaddN hx hb dL_law_1577 ?_
  refine lw_sld hx hb hXs hbl hbb hS (show ii + 3 < Ln by omega) hLn dL_law_1578 ?_
  rw [hq3]
  refine lv_aload_n hx hb dL_law_1579 rfl (lv_at hl 2 rfl) ?_
  refine lv_iload hx hb dL_law_1580 (lv_at hl 1 rfl) ?_
  refine lv_iconstN hx hb 4 dL_law_1582 (by decide) ?_
  refine lv_iaddN hx hb dL_law_1583 ?_
  refine lw_sld hx hb hXs hbl hbb hS (show ii + 4 < Ln by omega) hLn dL_law_1584 ?_
  rw [hq4]
  have hMt := mX7_bestFrom_b1 l hM v w u kd (by rw [hv]; rfl)
  rw [hm0] at hMt
  refine mu_V (As := [.int v, .int w, .int u, .int kd]) (h0 := mm) (rest := []) (v := nI 0) hx hb hml hown hC hS hAb hMt (fun q h => h.elim (hLbM q) (hz0 q)) kV_L_167 ⟨rfl, rfl⟩ ⟨Nat.le_of_ble_eq_true rfl, Nat.le_of_ble_eq_true rfl⟩ (by rw [← hm0]; exact hM.1.recv hC cM_0 rfl) rfl hl (Nat.le_of_ble_eq_true rfl) ⟨show cells + 1 + 0 ≤ 609960 by omega, show slots + 6 + 0 ≤ 7266223 by omega⟩ dL_law_1585 (fun H locs hB hS1 hz hkk => ?_)
  have hT := lt_m hX hM hx0 hm0 hdj hoL hoM hO hob ⟨L', ly', ad', hB, hm0, fun q h => Or.inl h⟩ hkk hS1
  obtain ⟨ly, L, ad, ly', L', ad', hX, hM, hx0, hm0, hdj, hoL, hoM, hO, hob, hS⟩ := hT
  have hLb := hX.2.2.1
  have hLbM := hM.2.2.1
  have hz0 : ∀ q, H.size ≤ q → bA E q := fun q z => by show E.2 0 ≤ q; rw [hE0]; exact Nat.le_trans hS.1 z
  refine lv_istore (lv' := [(6, .int (nI 0)), (5, .int (nI 1)), (4, .int (nI ii)), (0, .ref bb), (1, .ref x), (2, .ref mm), (3, .ref out)]) hx hb dL_law_1588 hl (by decide) rfl (fun ls hl => ?_)
  refine lv_aload_n hx hb dL_law_1590 rfl (lv_at hl 5 rfl) ?_
  have hMt := mX7_thrown l hM
  rw [hm0] at hMt
  refine ro_V (As := []) (h0 := mm) (rest := []) (v := nI 1) hx hb hml hown hC hS hAb hMt kV_L_98 ⟨rfl, rfl⟩ ⟨Nat.le_of_ble_eq_true rfl, Nat.le_of_ble_eq_true rfl⟩ (by rw [← hm0]; exact hM.1.recv hC cM_0 rfl) rfl hl (Nat.le_of_ble_eq_true rfl) ⟨show cells + 1 + 0 ≤ 609960 by omega, show slots + 6 + 0 ≤ 7266223 by omega⟩ dL_law_1591 ?_
  refine lv_iload hx hb dL_law_1594 (lv_at hl 1 rfl) ?_
  refine lv_icmp_eq (tgt := 1601) hx hb dL_law_1596 (by decide) (fun _ => ?_) (fun c9 => absurd rfl c9)
  refine lv_iload hx hb dL_law_1601 (lv_at hl 1 rfl) ?_
  have hT : LT E s.heap x mm out _ _ _ _ H locs := ⟨ly, L, ad, ly', L', ad', hX, hM, hx0, hm0, hdj, hoL, hoM, hO, hob, hS⟩
  refine lv_if_ne (tgt := 1618) hx hb dL_law_1603 (by decide) (fun _ => ?_) (fun c9 => absurd c9 (by decide))
  refine lv_goto (tgt := 1820) hx hb dL_law_1618 (by decide) ?_
  refine W.widen (k := cells + 1100) (n := slots + 14000) (by omega) (by omega) ?_
  exact kk _ _ _ _ _ _ hT (lv_sub hl [2, 3, 4, 5, 6] rfl)
set_option maxHeartbeats 4000000 in
set_option maxRecDepth 100000 in
theorem lc_bestFrom_b2 (C0 : LC p l s m co E bb Ln xs) {c : Cy} {th : Int32} {v0 : Int64} {H : Heap} {locs : List Loc} {x mm out : Nat} (hT : LT E s.heap x mm out c c th v0 H locs) {ii : Nat} (hii : ii + 7 ≤ Ln) {cells slots : Nat} (hcs : cells + 1100 ≤ 609960 ∧ slots + 14000 ≤ 7266223) {ls : Array Slot} (hl : lv_has ls 9 [(4, .int (nI ii)), (0, .ref bb), (1, .ref x), (2, .ref mm), (3, .ref out)]) (kk : KK p l e s m below meth co bb E Q x mm out ii cells slots) (h : Nat) (v u kd : Int32) (hq1 : xs (ii + 1) = nI h) (hq2 : xs (ii + 2) = v) (hq3 : xs (ii + 3) = u) (hq4 : xs (ii + 4) = kd) (hh : h < c.R 10 1) (hv : isInS v (nI 0) (nI (c.R 10 0) - nI 1) = false) : W p l e room_1 s m #[Value.ref bb] below meth co H locs cells slots Q (F0 m 1529 ls []) := by
  obtain ⟨hx, hb, hml, hown, hC, hNc, hXs, hbl, hE0, hst, hLn⟩ := C0
  have hAb : ∀ q, bA E q → bA E q := fun _ h => h
  have hbb : ¬ bA E bb := by show ¬ E.2 0 ≤ bb; rw [hE0]; exact Nat.not_le.mpr hbl
  obtain ⟨ly, L, ad, ly', L', ad', hX, hM, hx0, hm0, hdj, hoL, hoM, hO, hob, hS⟩ := hT
  have hLb := hX.2.2.1
  have hLbM := hM.2.2.1
  have hz0 : ∀ q, H.size ≤ q → bA E q := fun q z => by show E.2 0 ≤ q; rw [hE0]; exact Nat.le_trans hS.1 z
  refine lv_aload_n hx hb dL_law_1529 rfl (lv_at hl 2 rfl) ?_
  refine lv_aload_n hx hb dL_law_1530 rfl (lv_at hl 1 rfl) ?_
  refine lv_iload hx hb dL_law_1531 (lv_at hl 0 rfl) ?_
  refine lv_iconstN hx hb 1 dL_law_1533 (by decide) ?_
  refine lv_iaddN hx hb dL_law_1534 ?_
  refine lw_sld hx hb hXs hbl hbb hS (show ii + 1 < Ln by omega) hLn dL_law_1535 ?_
  rw [hq1]
  refine lv_aload_n hx hb dL_law_1536 rfl (lv_at hl 1 rfl) ?_
  refine lv_iload hx hb dL_law_1537 (lv_at hl 0 rfl) ?_
  refine lv_iconstN hx hb 2 dL_law_1539 (by decide) ?_
  refine lv_iaddN hx hb dL_law_1540 ?_
  refine lw_sld hx hb hXs hbl hbb hS (show ii + 2 < Ln by omega) hLn dL_law_1541 ?_
  rw [hq2]
  refine lv_aload_n hx hb dL_law_1542 rfl (lv_at hl 1 rfl) ?_
  refine lv_iload hx hb dL_law_1543 (lv_at hl 0 rfl) ?_
  refine lv_iconstN hx hb 3 dL_law_1545 (by decide) ?_
  refine lv_iaddN hx hb dL_law_1546 ?_
  refine lw_sld hx hb hXs hbl hbb hS (show ii + 3 < Ln by omega) hLn dL_law_1547 ?_
  rw [hq3]
  refine lv_aload_n hx hb dL_law_1548 rfl (lv_at hl 1 rfl) ?_
  refine lv_iload hx hb dL_law_1549 (lv_at hl 0 rfl) ?_
  refine lv_iconstN hx hb 4 dL_law_1551 (by decide) ?_
  refine lv_iaddN hx hb dL_law_1552 ?_
  refine lw_sld hx hb hXs hbl hbb hS (show ii + 4 < Ln by omega) hLn dL_law_1553 ?_
  rw [hq4]
  refine lv_aload_n hx hb dL_law_1554 rfl (lv_at hl 4 rfl) ?_
  have hMt := mL_bestFrom_b2 l hst hX hO hoL hob h v u kd hh hv
  rw [hx0] at hMt
  refine lw_S (As := [.ref x, .int (nI h), .int v, .int u, .int kd, .ref out]) (rest := []) hx hb hml hown hC hNc hS hAb hMt (fun q h => h.elim (hLb q) (fun h => h.elim (fun h => by rw [h]; exact hob) (hz0 q))) kW_L_165 ⟨rfl, rfl⟩ ⟨Nat.le_of_ble_eq_true rfl, Nat.le_of_ble_eq_true rfl⟩ rfl hl (Nat.le_of_ble_eq_true rfl) ⟨show cells + 1 ≤ 609960 by omega, show slots + 6 ≤ 7266223 by omega⟩ dL_law_1555 (fun H locs hB hS1 hz hkk => ?_)
  have hT := lt_x hX hM hx0 hm0 hdj hoL hoM hO hob hB hkk hS1
  obtain ⟨ly, L, ad, ly', L', ad', hX, hM, hx0, hm0, hdj, hoL, hoM, hO, hob, hS⟩ := hT
  have hLb := hX.2.2.1
  have hLbM := hM.2.2.1
  have hz0 : ∀ q, H.size ≤ q → bA E q := fun q z => by show E.2 0 ≤ q; rw [hE0]; exact Nat.le_trans hS.1 z
  refine lv_istore (lv' := [(5, .int (nI 1)), (4, .int (nI ii)), (0, .ref bb), (1, .ref x), (2, .ref mm), (3, .ref out)]) hx hb dL_law_1558 hl (by decide) rfl (fun ls hl => ?_)
  refine lv_aload_n hx hb dL_law_1560 rfl (lv_at hl 4 rfl) ?_
  refine lv_aload_n hx hb dL_law_1561 rfl (lv_at hl 2 rfl) ?_
  refine lv_iload hx hb dL_law_1562 (lv_at hl 1 rfl) ?_
  refine lv_iconstN hx hb 1 dL_law_1564 (by decide) ?_
  refine lv_iaddN hx hb dL_law_1565 ?_
  refine lw_sld hx hb hXs hbl hbb hS (show ii + 1 < Ln by omega) hLn dL_law_1566 ?_
  rw [hq1]
  refine lv_aload_n hx hb dL_law_1567 rfl (lv_at hl 2 rfl) ?_
  refine lv_iload hx hb dL_law_1568 (lv_at hl 1 rfl) ?_
  refine lv_iconstN hx hb 2 dL_law_1570 (by decide) ?_
  refine lv_iaddN hx hb dL_law_1571 ?_
  refine lw_sld hx hb hXs hbl hbb hS (show ii + 2 < Ln by omega) hLn dL_law_1572 ?_
  rw [hq2]
  refine lv_aload_n hx hb dL_law_1573 rfl (lv_at hl 2 rfl) ?_
  refine lv_iload hx hb dL_law_1574 (lv_at hl 1 rfl) ?_
  refine lv_iconstN hx hb 3 dL_law_1576 (by decide) ?_
  refine lv_iaddN hx hb dL_law_1577 ?_
  refine lw_sld hx hb hXs hbl hbb hS (show ii + 3 < Ln by omega) hLn dL_law_1578 ?_
  rw [hq3]
  refine lv_aload_n hx hb dL_law_1579 rfl (lv_at hl 2 rfl) ?_
  refine lv_iload hx hb dL_law_1580 (lv_at hl 1 rfl) ?_
  refine lv_iconstN hx hb 4 dL_law_1582 (by decide) ?_
  refine lv_iaddN hx hb dL_law_1583 ?_
  refine lw_sld hx hb hXs hbl hbb hS (show ii + 4 < Ln by omega) hLn dL_law_1584 ?_
  rw [hq4]
  have hMt := mX7_bestFrom_b1 l hM (nI h) v u kd (by rw [hv, Bool.and_false])
  rw [hm0] at hMt
  refine mu_V (As := [.int (nI h), .int v, .int u, .int kd]) (h0 := mm) (rest := []) (v := nI 0) hx hb hml hown hC hS hAb hMt (fun q h => h.elim (hLbM q) (hz0 q)) kV_L_167 ⟨rfl, rfl⟩ ⟨Nat.le_of_ble_eq_true rfl, Nat.le_of_ble_eq_true rfl⟩ (by rw [← hm0]; exact hM.1.recv hC cM_0 rfl) rfl hl (Nat.le_of_ble_eq_true rfl) ⟨show cells + 1 + 0 ≤ 609960 by omega, show slots + 6 + 0 ≤ 7266223 by omega⟩ dL_law_1585 (fun H locs hB hS1 hz hkk => ?_)
  have hT := lt_m hX hM hx0 hm0 hdj hoL hoM hO hob ⟨L', ly', ad', hB, hm0, fun q h => Or.inl h⟩ hkk hS1
  obtain ⟨ly, L, ad, ly', L', ad', hX, hM, hx0, hm0, hdj, hoL, hoM, hO, hob, hS⟩ := hT
  have hLb := hX.2.2.1
  have hLbM := hM.2.2.1
  have hz0 : ∀ q, H.size ≤ q → bA E q := fun q z => by show E.2 0 ≤ q; rw [hE0]; exact Nat.le_trans hS.1 z
  refine lv_istore (lv' := [(6, .int (nI 0)), (5, .int (nI 1)), (4, .int (nI ii)), (0, .ref bb), (1, .ref x), (2, .ref mm), (3, .ref out)]) hx hb dL_law_1588 hl (by decide) rfl (fun ls hl => ?_)
  refine lv_aload_n hx hb dL_law_1590 rfl (lv_at hl 5 rfl) ?_
  have hMt := mX7_thrown l hM
  rw [hm0] at hMt
  refine ro_V (As := []) (h0 := mm) (rest := []) (v := nI 1) hx hb hml hown hC hS hAb hMt kV_L_98 ⟨rfl, rfl⟩ ⟨Nat.le_of_ble_eq_true rfl, Nat.le_of_ble_eq_true rfl⟩ (by rw [← hm0]; exact hM.1.recv hC cM_0 rfl) rfl hl (Nat.le_of_ble_eq_true rfl) ⟨show cells + 1 + 0 ≤ 609960 by omega, show slots + 6 + 0 ≤ 7266223 by omega⟩ dL_law_1591 ?_
  refine lv_iload hx hb dL_law_1594 (lv_at hl 1 rfl) ?_
  refine lv_icmp_eq (tgt := 1601) hx hb dL_law_1596 (by decide) (fun _ => ?_) (fun c9 => absurd rfl c9)
  refine lv_iload hx hb dL_law_1601 (lv_at hl 1 rfl) ?_
  have hT : LT E s.heap x mm out _ _ _ _ H locs := ⟨ly, L, ad, ly', L', ad', hX, hM, hx0, hm0, hdj, hoL, hoM, hO, hob, hS⟩
  refine lv_if_ne (tgt := 1618) hx hb dL_law_1603 (by decide) (fun _ => ?_) (fun c9 => absurd c9 (by decide))
  refine lv_goto (tgt := 1820) hx hb dL_law_1618 (by decide) ?_
  refine W.widen (k := cells + 1100) (n := slots + 14000) (by omega) (by omega) ?_
  exact kk _ _ _ _ _ _ hT (lv_sub hl [2, 3, 4, 5, 6] rfl)
set_option maxHeartbeats 4000000 in
set_option maxRecDepth 100000 in
theorem lc_bestFrom_b3 (C0 : LC p l s m co E bb Ln xs) {c : Cy} {th : Int32} {v0 : Int64} {H : Heap} {locs : List Loc} {x mm out : Nat} (hT : LT E s.heap x mm out c c th v0 H locs) {ii : Nat} (hii : ii + 7 ≤ Ln) {cells slots : Nat} (hcs : cells + 1100 ≤ 609960 ∧ slots + 14000 ≤ 7266223) {ls : Array Slot} (hl : lv_has ls 9 [(4, .int (nI ii)), (0, .ref bb), (1, .ref x), (2, .ref mm), (3, .ref out)]) (kk : KK p l e s m below meth co bb E Q x mm out ii cells slots) (h i : Nat) (u kd : Int32) (hq1 : xs (ii + 1) = nI h) (hq2 : xs (ii + 2) = nI i) (hq3 : xs (ii + 3) = u) (hq4 : xs (ii + 4) = kd) (hh : h < c.R 10 1) (hi : i < c.R 10 0) (hu : isInS u (nI 1) (nI 16) = false) : W p l e room_1 s m #[Value.ref bb] below meth co H locs cells slots Q (F0 m 1529 ls []) := by
  obtain ⟨hx, hb, hml, hown, hC, hNc, hXs, hbl, hE0, hst, hLn⟩ := C0
  have hAb : ∀ q, bA E q → bA E q := fun _ h => h
  have hbb : ¬ bA E bb := by show ¬ E.2 0 ≤ bb; rw [hE0]; exact Nat.not_le.mpr hbl
  obtain ⟨ly, L, ad, ly', L', ad', hX, hM, hx0, hm0, hdj, hoL, hoM, hO, hob, hS⟩ := hT
  have hLb := hX.2.2.1
  have hLbM := hM.2.2.1
  have hz0 : ∀ q, H.size ≤ q → bA E q := fun q z => by show E.2 0 ≤ q; rw [hE0]; exact Nat.le_trans hS.1 z
  refine lv_aload_n hx hb dL_law_1529 rfl (lv_at hl 2 rfl) ?_
  refine lv_aload_n hx hb dL_law_1530 rfl (lv_at hl 1 rfl) ?_
  refine lv_iload hx hb dL_law_1531 (lv_at hl 0 rfl) ?_
  refine lv_iconstN hx hb 1 dL_law_1533 (by decide) ?_
  refine lv_iaddN hx hb dL_law_1534 ?_
  refine lw_sld hx hb hXs hbl hbb hS (show ii + 1 < Ln by omega) hLn dL_law_1535 ?_
  rw [hq1]
  refine lv_aload_n hx hb dL_law_1536 rfl (lv_at hl 1 rfl) ?_
  refine lv_iload hx hb dL_law_1537 (lv_at hl 0 rfl) ?_
  refine lv_iconstN hx hb 2 dL_law_1539 (by decide) ?_
  refine lv_iaddN hx hb dL_law_1540 ?_
  refine lw_sld hx hb hXs hbl hbb hS (show ii + 2 < Ln by omega) hLn dL_law_1541 ?_
  rw [hq2]
  refine lv_aload_n hx hb dL_law_1542 rfl (lv_at hl 1 rfl) ?_
  refine lv_iload hx hb dL_law_1543 (lv_at hl 0 rfl) ?_
  refine lv_iconstN hx hb 3 dL_law_1545 (by decide) ?_
  refine lv_iaddN hx hb dL_law_1546 ?_
  refine lw_sld hx hb hXs hbl hbb hS (show ii + 3 < Ln by omega) hLn dL_law_1547 ?_
  rw [hq3]
  refine lv_aload_n hx hb dL_law_1548 rfl (lv_at hl 1 rfl) ?_
  refine lv_iload hx hb dL_law_1549 (lv_at hl 0 rfl) ?_
  refine lv_iconstN hx hb 4 dL_law_1551 (by decide) ?_
  refine lv_iaddN hx hb dL_law_1552 ?_
  refine lw_sld hx hb hXs hbl hbb hS (show ii + 4 < Ln by omega) hLn dL_law_1553 ?_
  rw [hq4]
  refine lv_aload_n hx hb dL_law_1554 rfl (lv_at hl 4 rfl) ?_
  have hMt := mL_bestFrom_b3 l hst hX hO hoL hob h i u kd hh hi hu
  rw [hx0] at hMt
  refine lw_S (As := [.ref x, .int (nI h), .int (nI i), .int u, .int kd, .ref out]) (rest := []) hx hb hml hown hC hNc hS hAb hMt (fun q h => h.elim (hLb q) (fun h => h.elim (fun h => by rw [h]; exact hob) (hz0 q))) kW_L_165 ⟨rfl, rfl⟩ ⟨Nat.le_of_ble_eq_true rfl, Nat.le_of_ble_eq_true rfl⟩ rfl hl (Nat.le_of_ble_eq_true rfl) ⟨show cells + 1 ≤ 609960 by omega, show slots + 6 ≤ 7266223 by omega⟩ dL_law_1555 (fun H locs hB hS1 hz hkk => ?_)
  have hT := lt_x hX hM hx0 hm0 hdj hoL hoM hO hob hB hkk hS1
  obtain ⟨ly, L, ad, ly', L', ad', hX, hM, hx0, hm0, hdj, hoL, hoM, hO, hob, hS⟩ := hT
  have hLb := hX.2.2.1
  have hLbM := hM.2.2.1
  have hz0 : ∀ q, H.size ≤ q → bA E q := fun q z => by show E.2 0 ≤ q; rw [hE0]; exact Nat.le_trans hS.1 z
  refine lv_istore (lv' := [(5, .int (nI 2)), (4, .int (nI ii)), (0, .ref bb), (1, .ref x), (2, .ref mm), (3, .ref out)]) hx hb dL_law_1558 hl (by decide) rfl (fun ls hl => ?_)
  refine lv_aload_n hx hb dL_law_1560 rfl (lv_at hl 4 rfl) ?_
  refine lv_aload_n hx hb dL_law_1561 rfl (lv_at hl 2 rfl) ?_
  refine lv_iload hx hb dL_law_1562 (lv_at hl 1 rfl) ?_
  refine lv_iconstN hx hb 1 dL_law_1564 (by decide) ?_
  refine lv_iaddN hx hb dL_law_1565 ?_
  refine lw_sld hx hb hXs hbl hbb hS (show ii + 1 < Ln by omega) hLn dL_law_1566 ?_
  rw [hq1]
  refine lv_aload_n hx hb dL_law_1567 rfl (lv_at hl 2 rfl) ?_
  refine lv_iload hx hb dL_law_1568 (lv_at hl 1 rfl) ?_
  refine lv_iconstN hx hb 2 dL_law_1570 (by decide) ?_
  refine lv_iaddN hx hb dL_law_1571 ?_
  refine lw_sld hx hb hXs hbl hbb hS (show ii + 2 < Ln by omega) hLn dL_law_1572 ?_
  rw [hq2]
  refine lv_aload_n hx hb dL_law_1573 rfl (lv_at hl 2 rfl) ?_
  refine lv_iload hx hb dL_law_1574 (lv_at hl 1 rfl) ?_
  refine lv_iconstN hx hb 3 dL_law_1576 (by decide) ?_
  refine lv_iaddN hx hb dL_law_1577 ?_
  refine lw_sld hx hb hXs hbl hbb hS (show ii + 3 < Ln by omega) hLn dL_law_1578 ?_
  rw [hq3]
  refine lv_aload_n hx hb dL_law_1579 rfl (lv_at hl 2 rfl) ?_
  refine lv_iload hx hb dL_law_1580 (lv_at hl 1 rfl) ?_
  refine lv_iconstN hx hb 4 dL_law_1582 (by decide) ?_
  refine lv_iaddN hx hb dL_law_1583 ?_
  refine lw_sld hx hb hXs hbl hbb hS (show ii + 4 < Ln by omega) hLn dL_law_1584 ?_
  rw [hq4]
  have hMt := mX7_bestFrom_b2 l hM h i u kd hh hi (by rw [hu]; rfl)
  rw [hm0] at hMt
  refine mu_V (As := [.int (nI h), .int (nI i), .int u, .int kd]) (h0 := mm) (rest := []) (v := nI 0) hx hb hml hown hC hS hAb hMt (fun q h => h.elim (hLbM q) (hz0 q)) kV_L_167 ⟨rfl, rfl⟩ ⟨Nat.le_of_ble_eq_true rfl, Nat.le_of_ble_eq_true rfl⟩ (by rw [← hm0]; exact hM.1.recv hC cM_0 rfl) rfl hl (Nat.le_of_ble_eq_true rfl) ⟨show cells + 1 + 0 ≤ 609960 by omega, show slots + 6 + 0 ≤ 7266223 by omega⟩ dL_law_1585 (fun H locs hB hS1 hz hkk => ?_)
  have hT := lt_m hX hM hx0 hm0 hdj hoL hoM hO hob ⟨L', ly', ad', hB, hm0, fun q h => Or.inl h⟩ hkk hS1
  obtain ⟨ly, L, ad, ly', L', ad', hX, hM, hx0, hm0, hdj, hoL, hoM, hO, hob, hS⟩ := hT
  have hLb := hX.2.2.1
  have hLbM := hM.2.2.1
  have hz0 : ∀ q, H.size ≤ q → bA E q := fun q z => by show E.2 0 ≤ q; rw [hE0]; exact Nat.le_trans hS.1 z
  refine lv_istore (lv' := [(6, .int (nI 0)), (5, .int (nI 2)), (4, .int (nI ii)), (0, .ref bb), (1, .ref x), (2, .ref mm), (3, .ref out)]) hx hb dL_law_1588 hl (by decide) rfl (fun ls hl => ?_)
  refine lv_aload_n hx hb dL_law_1590 rfl (lv_at hl 5 rfl) ?_
  have hMt := mX7_thrown l hM
  rw [hm0] at hMt
  refine ro_V (As := []) (h0 := mm) (rest := []) (v := nI 2) hx hb hml hown hC hS hAb hMt kV_L_98 ⟨rfl, rfl⟩ ⟨Nat.le_of_ble_eq_true rfl, Nat.le_of_ble_eq_true rfl⟩ (by rw [← hm0]; exact hM.1.recv hC cM_0 rfl) rfl hl (Nat.le_of_ble_eq_true rfl) ⟨show cells + 1 + 0 ≤ 609960 by omega, show slots + 6 + 0 ≤ 7266223 by omega⟩ dL_law_1591 ?_
  refine lv_iload hx hb dL_law_1594 (lv_at hl 1 rfl) ?_
  refine lv_icmp_eq (tgt := 1601) hx hb dL_law_1596 (by decide) (fun _ => ?_) (fun c9 => absurd rfl c9)
  refine lv_iload hx hb dL_law_1601 (lv_at hl 1 rfl) ?_
  have hT : LT E s.heap x mm out _ _ _ _ H locs := ⟨ly, L, ad, ly', L', ad', hX, hM, hx0, hm0, hdj, hoL, hoM, hO, hob, hS⟩
  refine lv_if_ne (tgt := 1618) hx hb dL_law_1603 (by decide) (fun _ => ?_) (fun c9 => absurd c9 (by decide))
  refine lv_goto (tgt := 1820) hx hb dL_law_1618 (by decide) ?_
  refine W.widen (k := cells + 1100) (n := slots + 14000) (by omega) (by omega) ?_
  exact kk _ _ _ _ _ _ hT (lv_sub hl [2, 3, 4, 5, 6] rfl)
set_option maxHeartbeats 4000000 in
set_option maxRecDepth 100000 in
theorem lc_bestFrom_b4 (C0 : LC p l s m co E bb Ln xs) {c : Cy} {th : Int32} {v0 : Int64} {H : Heap} {locs : List Loc} {x mm out : Nat} (hT : LT E s.heap x mm out c c th v0 H locs) {ii : Nat} (hii : ii + 7 ≤ Ln) {cells slots : Nat} (hcs : cells + 1100 ≤ 609960 ∧ slots + 14000 ≤ 7266223) {ls : Array Slot} (hl : lv_has ls 9 [(4, .int (nI ii)), (0, .ref bb), (1, .ref x), (2, .ref mm), (3, .ref out)]) (kk : KK p l e s m below meth co bb E Q x mm out ii cells slots) (h i : Nat) (u kd : Int32) (hq1 : xs (ii + 1) = nI h) (hq2 : xs (ii + 2) = nI i) (hq3 : xs (ii + 3) = u) (hq4 : xs (ii + 4) = kd) (hh : h < c.R 10 1) (hi : i < c.R 10 0) (hu : isInS u (nI 1) (nI 16) = true) (hk : isInS kd (nI 0) (nI 3) = false) : W p l e room_1 s m #[Value.ref bb] below meth co H locs cells slots Q (F0 m 1529 ls []) := by
  obtain ⟨hx, hb, hml, hown, hC, hNc, hXs, hbl, hE0, hst, hLn⟩ := C0
  have hAb : ∀ q, bA E q → bA E q := fun _ h => h
  have hbb : ¬ bA E bb := by show ¬ E.2 0 ≤ bb; rw [hE0]; exact Nat.not_le.mpr hbl
  obtain ⟨ly, L, ad, ly', L', ad', hX, hM, hx0, hm0, hdj, hoL, hoM, hO, hob, hS⟩ := hT
  have hLb := hX.2.2.1
  have hLbM := hM.2.2.1
  have hz0 : ∀ q, H.size ≤ q → bA E q := fun q z => by show E.2 0 ≤ q; rw [hE0]; exact Nat.le_trans hS.1 z
  refine lv_aload_n hx hb dL_law_1529 rfl (lv_at hl 2 rfl) ?_
  refine lv_aload_n hx hb dL_law_1530 rfl (lv_at hl 1 rfl) ?_
  refine lv_iload hx hb dL_law_1531 (lv_at hl 0 rfl) ?_
  refine lv_iconstN hx hb 1 dL_law_1533 (by decide) ?_
  refine lv_iaddN hx hb dL_law_1534 ?_
  refine lw_sld hx hb hXs hbl hbb hS (show ii + 1 < Ln by omega) hLn dL_law_1535 ?_
  rw [hq1]
  refine lv_aload_n hx hb dL_law_1536 rfl (lv_at hl 1 rfl) ?_
  refine lv_iload hx hb dL_law_1537 (lv_at hl 0 rfl) ?_
  refine lv_iconstN hx hb 2 dL_law_1539 (by decide) ?_
  refine lv_iaddN hx hb dL_law_1540 ?_
  refine lw_sld hx hb hXs hbl hbb hS (show ii + 2 < Ln by omega) hLn dL_law_1541 ?_
  rw [hq2]
  refine lv_aload_n hx hb dL_law_1542 rfl (lv_at hl 1 rfl) ?_
  refine lv_iload hx hb dL_law_1543 (lv_at hl 0 rfl) ?_
  refine lv_iconstN hx hb 3 dL_law_1545 (by decide) ?_
  refine lv_iaddN hx hb dL_law_1546 ?_
  refine lw_sld hx hb hXs hbl hbb hS (show ii + 3 < Ln by omega) hLn dL_law_1547 ?_
  rw [hq3]
  refine lv_aload_n hx hb dL_law_1548 rfl (lv_at hl 1 rfl) ?_
  refine lv_iload hx hb dL_law_1549 (lv_at hl 0 rfl) ?_
  refine lv_iconstN hx hb 4 dL_law_1551 (by decide) ?_
  refine lv_iaddN hx hb dL_law_1552 ?_
  refine lw_sld hx hb hXs hbl hbb hS (show ii + 4 < Ln by omega) hLn dL_law_1553 ?_
  rw [hq4]
  refine lv_aload_n hx hb dL_law_1554 rfl (lv_at hl 4 rfl) ?_
  have hMt := mL_bestFrom_b4 l hst hX hO hoL hob h i u kd hh hi hu hk
  rw [hx0] at hMt
  refine lw_S (As := [.ref x, .int (nI h), .int (nI i), .int u, .int kd, .ref out]) (rest := []) hx hb hml hown hC hNc hS hAb hMt (fun q h => h.elim (hLb q) (fun h => h.elim (fun h => by rw [h]; exact hob) (hz0 q))) kW_L_165 ⟨rfl, rfl⟩ ⟨Nat.le_of_ble_eq_true rfl, Nat.le_of_ble_eq_true rfl⟩ rfl hl (Nat.le_of_ble_eq_true rfl) ⟨show cells + 1 ≤ 609960 by omega, show slots + 6 ≤ 7266223 by omega⟩ dL_law_1555 (fun H locs hB hS1 hz hkk => ?_)
  have hT := lt_x hX hM hx0 hm0 hdj hoL hoM hO hob hB hkk hS1
  obtain ⟨ly, L, ad, ly', L', ad', hX, hM, hx0, hm0, hdj, hoL, hoM, hO, hob, hS⟩ := hT
  have hLb := hX.2.2.1
  have hLbM := hM.2.2.1
  have hz0 : ∀ q, H.size ≤ q → bA E q := fun q z => by show E.2 0 ≤ q; rw [hE0]; exact Nat.le_trans hS.1 z
  refine lv_istore (lv' := [(5, .int (nI 2)), (4, .int (nI ii)), (0, .ref bb), (1, .ref x), (2, .ref mm), (3, .ref out)]) hx hb dL_law_1558 hl (by decide) rfl (fun ls hl => ?_)
  refine lv_aload_n hx hb dL_law_1560 rfl (lv_at hl 4 rfl) ?_
  refine lv_aload_n hx hb dL_law_1561 rfl (lv_at hl 2 rfl) ?_
  refine lv_iload hx hb dL_law_1562 (lv_at hl 1 rfl) ?_
  refine lv_iconstN hx hb 1 dL_law_1564 (by decide) ?_
  refine lv_iaddN hx hb dL_law_1565 ?_
  refine lw_sld hx hb hXs hbl hbb hS (show ii + 1 < Ln by omega) hLn dL_law_1566 ?_
  rw [hq1]
  refine lv_aload_n hx hb dL_law_1567 rfl (lv_at hl 2 rfl) ?_
  refine lv_iload hx hb dL_law_1568 (lv_at hl 1 rfl) ?_
  refine lv_iconstN hx hb 2 dL_law_1570 (by decide) ?_
  refine lv_iaddN hx hb dL_law_1571 ?_
  refine lw_sld hx hb hXs hbl hbb hS (show ii + 2 < Ln by omega) hLn dL_law_1572 ?_
  rw [hq2]
  refine lv_aload_n hx hb dL_law_1573 rfl (lv_at hl 2 rfl) ?_
  refine lv_iload hx hb dL_law_1574 (lv_at hl 1 rfl) ?_
  refine lv_iconstN hx hb 3 dL_law_1576 (by decide) ?_
  refine lv_iaddN hx hb dL_law_1577 ?_
  refine lw_sld hx hb hXs hbl hbb hS (show ii + 3 < Ln by omega) hLn dL_law_1578 ?_
  rw [hq3]
  refine lv_aload_n hx hb dL_law_1579 rfl (lv_at hl 2 rfl) ?_
  refine lv_iload hx hb dL_law_1580 (lv_at hl 1 rfl) ?_
  refine lv_iconstN hx hb 4 dL_law_1582 (by decide) ?_
  refine lv_iaddN hx hb dL_law_1583 ?_
  refine lw_sld hx hb hXs hbl hbb hS (show ii + 4 < Ln by omega) hLn dL_law_1584 ?_
  rw [hq4]
  have hMt := mX7_bestFrom_b2 l hM h i u kd hh hi (by rw [hk, Bool.and_false])
  rw [hm0] at hMt
  refine mu_V (As := [.int (nI h), .int (nI i), .int u, .int kd]) (h0 := mm) (rest := []) (v := nI 0) hx hb hml hown hC hS hAb hMt (fun q h => h.elim (hLbM q) (hz0 q)) kV_L_167 ⟨rfl, rfl⟩ ⟨Nat.le_of_ble_eq_true rfl, Nat.le_of_ble_eq_true rfl⟩ (by rw [← hm0]; exact hM.1.recv hC cM_0 rfl) rfl hl (Nat.le_of_ble_eq_true rfl) ⟨show cells + 1 + 0 ≤ 609960 by omega, show slots + 6 + 0 ≤ 7266223 by omega⟩ dL_law_1585 (fun H locs hB hS1 hz hkk => ?_)
  have hT := lt_m hX hM hx0 hm0 hdj hoL hoM hO hob ⟨L', ly', ad', hB, hm0, fun q h => Or.inl h⟩ hkk hS1
  obtain ⟨ly, L, ad, ly', L', ad', hX, hM, hx0, hm0, hdj, hoL, hoM, hO, hob, hS⟩ := hT
  have hLb := hX.2.2.1
  have hLbM := hM.2.2.1
  have hz0 : ∀ q, H.size ≤ q → bA E q := fun q z => by show E.2 0 ≤ q; rw [hE0]; exact Nat.le_trans hS.1 z
  refine lv_istore (lv' := [(6, .int (nI 0)), (5, .int (nI 2)), (4, .int (nI ii)), (0, .ref bb), (1, .ref x), (2, .ref mm), (3, .ref out)]) hx hb dL_law_1588 hl (by decide) rfl (fun ls hl => ?_)
  refine lv_aload_n hx hb dL_law_1590 rfl (lv_at hl 5 rfl) ?_
  have hMt := mX7_thrown l hM
  rw [hm0] at hMt
  refine ro_V (As := []) (h0 := mm) (rest := []) (v := nI 2) hx hb hml hown hC hS hAb hMt kV_L_98 ⟨rfl, rfl⟩ ⟨Nat.le_of_ble_eq_true rfl, Nat.le_of_ble_eq_true rfl⟩ (by rw [← hm0]; exact hM.1.recv hC cM_0 rfl) rfl hl (Nat.le_of_ble_eq_true rfl) ⟨show cells + 1 + 0 ≤ 609960 by omega, show slots + 6 + 0 ≤ 7266223 by omega⟩ dL_law_1591 ?_
  refine lv_iload hx hb dL_law_1594 (lv_at hl 1 rfl) ?_
  refine lv_icmp_eq (tgt := 1601) hx hb dL_law_1596 (by decide) (fun _ => ?_) (fun c9 => absurd rfl c9)
  refine lv_iload hx hb dL_law_1601 (lv_at hl 1 rfl) ?_
  have hT : LT E s.heap x mm out _ _ _ _ H locs := ⟨ly, L, ad, ly', L', ad', hX, hM, hx0, hm0, hdj, hoL, hoM, hO, hob, hS⟩
  refine lv_if_ne (tgt := 1618) hx hb dL_law_1603 (by decide) (fun _ => ?_) (fun c9 => absurd c9 (by decide))
  refine lv_goto (tgt := 1820) hx hb dL_law_1618 (by decide) ?_
  refine W.widen (k := cells + 1100) (n := slots + 14000) (by omega) (by omega) ?_
  exact kk _ _ _ _ _ _ hT (lv_sub hl [2, 3, 4, 5, 6] rfl)
set_option maxHeartbeats 4000000 in
set_option maxRecDepth 100000 in
theorem lc_wouldWrong_g (C0 : LC p l s m co E bb Ln xs) {c : Cy} {th : Int32} {v0 : Int64} {H : Heap} {locs : List Loc} {x mm out : Nat} (hT : LT E s.heap x mm out c c th v0 H locs) {ii : Nat} (hii : ii + 7 ≤ Ln) {cells slots : Nat} (hcs : cells + 1100 ≤ 609960 ∧ slots + 14000 ≤ 7266223) {ls : Array Slot} (hl : lv_has ls 9 [(4, .int (nI ii)), (0, .ref bb), (1, .ref x), (2, .ref mm), (3, .ref out)]) (kk : KK p l e s m below meth co bb E Q x mm out ii cells slots) (h i f u kd : Nat) (hq1 : xs (ii + 1) = nI h) (hq2 : xs (ii + 2) = nI i) (hq3 : xs (ii + 3) = nI f) (hq4 : xs (ii + 4) = nI u) (hq5 : xs (ii + 5) = nI kd) (hh : h < c.R 10 1) (hi : i < c.R 10 0) (hf : f + u ≤ c.R 1 i) (hu : 1 ≤ u) (hkd : kd < 4) : W p l e room_1 s m #[Value.ref bb] below meth co H locs cells slots Q (F0 m 1621 ls []) := by
  obtain ⟨hx, hb, hml, hown, hC, hNc, hXs, hbl, hE0, hst, hLn⟩ := C0
  have hAb : ∀ q, bA E q → bA E q := fun _ h => h
  have hbb : ¬ bA E bb := by show ¬ E.2 0 ≤ bb; rw [hE0]; exact Nat.not_le.mpr hbl
  obtain ⟨ly, L, ad, ly', L', ad', hX, hM, hx0, hm0, hdj, hoL, hoM, hO, hob, hS⟩ := hT
  have hLb := hX.2.2.1
  have hLbM := hM.2.2.1
  have hz0 : ∀ q, H.size ≤ q → bA E q := fun q z => by show E.2 0 ≤ q; rw [hE0]; exact Nat.le_trans hS.1 z
  refine lv_aload_n hx hb dL_law_1621 rfl (lv_at hl 2 rfl) ?_
  refine lv_aload_n hx hb dL_law_1622 rfl (lv_at hl 1 rfl) ?_
  refine lv_iload hx hb dL_law_1623 (lv_at hl 0 rfl) ?_
  refine lv_iconstN hx hb 1 dL_law_1625 (by decide) ?_
  refine lv_iaddN hx hb dL_law_1626 ?_
  refine lw_sld hx hb hXs hbl hbb hS (show ii + 1 < Ln by omega) hLn dL_law_1627 ?_
  rw [hq1]
  refine lv_aload_n hx hb dL_law_1628 rfl (lv_at hl 1 rfl) ?_
  refine lv_iload hx hb dL_law_1629 (lv_at hl 0 rfl) ?_
  refine lv_iconstN hx hb 2 dL_law_1631 (by decide) ?_
  refine lv_iaddN hx hb dL_law_1632 ?_
  refine lw_sld hx hb hXs hbl hbb hS (show ii + 2 < Ln by omega) hLn dL_law_1633 ?_
  rw [hq2]
  refine lv_aload_n hx hb dL_law_1634 rfl (lv_at hl 1 rfl) ?_
  refine lv_iload hx hb dL_law_1635 (lv_at hl 0 rfl) ?_
  refine lv_iconstN hx hb 3 dL_law_1637 (by decide) ?_
  refine lv_iaddN hx hb dL_law_1638 ?_
  refine lw_sld hx hb hXs hbl hbb hS (show ii + 3 < Ln by omega) hLn dL_law_1639 ?_
  rw [hq3]
  refine lv_aload_n hx hb dL_law_1640 rfl (lv_at hl 1 rfl) ?_
  refine lv_iload hx hb dL_law_1641 (lv_at hl 0 rfl) ?_
  refine lv_iconstN hx hb 4 dL_law_1643 (by decide) ?_
  refine lv_iaddN hx hb dL_law_1644 ?_
  refine lw_sld hx hb hXs hbl hbb hS (show ii + 4 < Ln by omega) hLn dL_law_1645 ?_
  rw [hq4]
  refine lv_aload_n hx hb dL_law_1646 rfl (lv_at hl 1 rfl) ?_
  refine lv_iload hx hb dL_law_1647 (lv_at hl 0 rfl) ?_
  refine lv_iconstN hx hb 5 dL_law_1649 (by decide) ?_
  refine lv_iaddN hx hb dL_law_1650 ?_
  refine lw_sld hx hb hXs hbl hbb hS (show ii + 5 < Ln by omega) hLn dL_law_1651 ?_
  rw [hq5]
  refine lv_aload_n hx hb dL_law_1652 rfl (lv_at hl 4 rfl) ?_
  have hMt := mL_wouldWrong_g l hX hO hoL hob h i f u kd hh hi hf hu hkd
  rw [hx0] at hMt
  refine lw_S (As := [.ref x, .int (nI h), .int (nI i), .int (nI f), .int (nI u), .int (nI kd), .ref out]) (rest := []) hx hb hml hown hC hNc hS hAb hMt (fun q h => h.elim (hLb q) (fun h => h.elim (fun h => by rw [h]; exact hob) (hz0 q))) kW_L_168 ⟨rfl, rfl⟩ ⟨Nat.le_of_ble_eq_true rfl, Nat.le_of_ble_eq_true rfl⟩ rfl hl (Nat.le_of_ble_eq_true rfl) ⟨show cells + 0 ≤ 609960 by omega, show slots + 0 ≤ 7266223 by omega⟩ dL_law_1653 (fun H locs hB hS1 hz hkk => ?_)
  have hT := lt_x hX hM hx0 hm0 hdj hoL hoM hO hob hB hkk hS1
  obtain ⟨ly, L, ad, ly', L', ad', hX, hM, hx0, hm0, hdj, hoL, hoM, hO, hob, hS⟩ := hT
  have hLb := hX.2.2.1
  have hLbM := hM.2.2.1
  have hz0 : ∀ q, H.size ≤ q → bA E q := fun q z => by show E.2 0 ≤ q; rw [hE0]; exact Nat.le_trans hS.1 z
  refine lv_istore (lv' := [(5, .int (nI 0)), (4, .int (nI ii)), (0, .ref bb), (1, .ref x), (2, .ref mm), (3, .ref out)]) hx hb dL_law_1656 hl (by decide) rfl (fun ls hl => ?_)
  refine lv_aload_n hx hb dL_law_1658 rfl (lv_at hl 4 rfl) ?_
  refine lv_aload_n hx hb dL_law_1659 rfl (lv_at hl 2 rfl) ?_
  refine lv_iload hx hb dL_law_1660 (lv_at hl 1 rfl) ?_
  refine lv_iconstN hx hb 1 dL_law_1662 (by decide) ?_
  refine lv_iaddN hx hb dL_law_1663 ?_
  refine lw_sld hx hb hXs hbl hbb hS (show ii + 1 < Ln by omega) hLn dL_law_1664 ?_
  rw [hq1]
  refine lv_aload_n hx hb dL_law_1665 rfl (lv_at hl 2 rfl) ?_
  refine lv_iload hx hb dL_law_1666 (lv_at hl 1 rfl) ?_
  refine lv_iconstN hx hb 2 dL_law_1668 (by decide) ?_
  refine lv_iaddN hx hb dL_law_1669 ?_
  refine lw_sld hx hb hXs hbl hbb hS (show ii + 2 < Ln by omega) hLn dL_law_1670 ?_
  rw [hq2]
  refine lv_aload_n hx hb dL_law_1671 rfl (lv_at hl 2 rfl) ?_
  refine lv_iload hx hb dL_law_1672 (lv_at hl 1 rfl) ?_
  refine lv_iconstN hx hb 3 dL_law_1674 (by decide) ?_
  refine lv_iaddN hx hb dL_law_1675 ?_
  refine lw_sld hx hb hXs hbl hbb hS (show ii + 3 < Ln by omega) hLn dL_law_1676 ?_
  rw [hq3]
  refine lv_aload_n hx hb dL_law_1677 rfl (lv_at hl 2 rfl) ?_
  refine lv_iload hx hb dL_law_1678 (lv_at hl 1 rfl) ?_
  refine lv_iconstN hx hb 4 dL_law_1680 (by decide) ?_
  refine lv_iaddN hx hb dL_law_1681 ?_
  refine lw_sld hx hb hXs hbl hbb hS (show ii + 4 < Ln by omega) hLn dL_law_1682 ?_
  rw [hq4]
  refine lv_aload_n hx hb dL_law_1683 rfl (lv_at hl 2 rfl) ?_
  refine lv_iload hx hb dL_law_1684 (lv_at hl 1 rfl) ?_
  refine lv_iconstN hx hb 5 dL_law_1686 (by decide) ?_
  refine lv_iaddN hx hb dL_law_1687 ?_
  refine lw_sld hx hb hXs hbl hbb hS (show ii + 5 < Ln by omega) hLn dL_law_1688 ?_
  rw [hq5]
  have hMt := mX7_wouldWrong_g l hM h i f u kd hh hi hf hu hkd
  rw [hm0] at hMt
  refine mu_V (As := [.int (nI h), .int (nI i), .int (nI f), .int (nI u), .int (nI kd)]) (h0 := mm) (rest := []) (v := nI (cwrS c h i f u kd)) hx hb hml hown hC hS hAb hMt (fun q h => h.elim (hLbM q) (hz0 q)) kV_L_171 ⟨rfl, rfl⟩ ⟨Nat.le_of_ble_eq_true rfl, Nat.le_of_ble_eq_true rfl⟩ (by rw [← hm0]; exact hM.1.recv hC cM_0 rfl) rfl hl (Nat.le_of_ble_eq_true rfl) ⟨show cells + 0 ≤ 609960 by omega, show slots + 0 ≤ 7266223 by omega⟩ dL_law_1689 (fun H locs hB hS1 hz hkk => ?_)
  have hT := lt_m hX hM hx0 hm0 hdj hoL hoM hO hob ⟨L', ly', ad', hB, hm0, fun q h => Or.inl h⟩ hkk hS1
  obtain ⟨ly, L, ad, ly', L', ad', hX, hM, hx0, hm0, hdj, hoL, hoM, hO, hob, hS⟩ := hT
  have hLb := hX.2.2.1
  have hLbM := hM.2.2.1
  have hz0 : ∀ q, H.size ≤ q → bA E q := fun q z => by show E.2 0 ≤ q; rw [hE0]; exact Nat.le_trans hS.1 z
  refine lv_istore (lv' := [(6, .int (nI (cwrS c h i f u kd))), (5, .int (nI 0)), (4, .int (nI ii)), (0, .ref bb), (1, .ref x), (2, .ref mm), (3, .ref out)]) hx hb dL_law_1692 hl (by decide) rfl (fun ls hl => ?_)
  refine lv_aload_n hx hb dL_law_1694 rfl (lv_at hl 5 rfl) ?_
  have hMt := mX7_thrown l hM
  rw [hm0] at hMt
  refine ro_V (As := []) (h0 := mm) (rest := []) (v := nI 0) hx hb hml hown hC hS hAb hMt kV_L_98 ⟨rfl, rfl⟩ ⟨Nat.le_of_ble_eq_true rfl, Nat.le_of_ble_eq_true rfl⟩ (by rw [← hm0]; exact hM.1.recv hC cM_0 rfl) rfl hl (Nat.le_of_ble_eq_true rfl) ⟨show cells + 0 ≤ 609960 by omega, show slots + 0 ≤ 7266223 by omega⟩ dL_law_1695 ?_
  refine lv_iload hx hb dL_law_1698 (lv_at hl 1 rfl) ?_
  refine lv_icmp_eq (tgt := 1705) hx hb dL_law_1700 (by decide) (fun _ => ?_) (fun c9 => absurd rfl c9)
  refine lv_iload hx hb dL_law_1705 (lv_at hl 1 rfl) ?_
  have hT : LT E s.heap x mm out _ _ _ _ H locs := ⟨ly, L, ad, ly', L', ad', hX, hM, hx0, hm0, hdj, hoL, hoM, hO, hob, hS⟩
  refine lv_if_ne (tgt := 1722) hx hb dL_law_1707 (by decide) (fun c9 => absurd (by decide) c9) (fun _ => ?_)
  refine lv_aload_n hx hb dL_law_1710 rfl (lv_at hl 6 rfl) ?_
  refine lv_iconstN hx hb 0 dL_law_1711 (by decide) ?_
  refine lw_lald hx hb hC hO dL_law_1712 ?_
  refine lv_iload hx hb dL_law_1713 (lv_at hl 0 rfl) ?_
  refine lv_i2l (v := (nI (cwrS c h i f u kd)).toInt64) hx hb dL_law_1715 rfl ?_
  refine W.lcmp hx hb dL_law_1716 ?_
  rw [lg_self]
  refine lv_if_eq (tgt := 1722) hx hb dL_law_1717 (by decide) (fun _ => ?_) (fun c9 => absurd rfl c9)
  refine lv_goto (tgt := 1820) hx hb dL_law_1722 (by decide) ?_
  refine W.widen (k := cells + 1100) (n := slots + 14000) (by omega) (by omega) ?_
  exact kk _ _ _ _ _ _ hT (lv_sub hl [2, 3, 4, 5, 6] rfl)
set_option maxHeartbeats 4000000 in
set_option maxRecDepth 100000 in
theorem lc_wouldWrong_b1 (C0 : LC p l s m co E bb Ln xs) {c : Cy} {th : Int32} {v0 : Int64} {H : Heap} {locs : List Loc} {x mm out : Nat} (hT : LT E s.heap x mm out c c th v0 H locs) {ii : Nat} (hii : ii + 7 ≤ Ln) {cells slots : Nat} (hcs : cells + 1100 ≤ 609960 ∧ slots + 14000 ≤ 7266223) {ls : Array Slot} (hl : lv_has ls 9 [(4, .int (nI ii)), (0, .ref bb), (1, .ref x), (2, .ref mm), (3, .ref out)]) (kk : KK p l e s m below meth co bb E Q x mm out ii cells slots) (v w f u kd : Int32) (hq1 : xs (ii + 1) = v) (hq2 : xs (ii + 2) = w) (hq3 : xs (ii + 3) = f) (hq4 : xs (ii + 4) = u) (hq5 : xs (ii + 5) = kd) (hv : isInS v (nI 0) (nI (c.R 10 1) - nI 1) = false) : W p l e room_1 s m #[Value.ref bb] below meth co H locs cells slots Q (F0 m 1621 ls []) := by
  obtain ⟨hx, hb, hml, hown, hC, hNc, hXs, hbl, hE0, hst, hLn⟩ := C0
  have hAb : ∀ q, bA E q → bA E q := fun _ h => h
  have hbb : ¬ bA E bb := by show ¬ E.2 0 ≤ bb; rw [hE0]; exact Nat.not_le.mpr hbl
  obtain ⟨ly, L, ad, ly', L', ad', hX, hM, hx0, hm0, hdj, hoL, hoM, hO, hob, hS⟩ := hT
  have hLb := hX.2.2.1
  have hLbM := hM.2.2.1
  have hz0 : ∀ q, H.size ≤ q → bA E q := fun q z => by show E.2 0 ≤ q; rw [hE0]; exact Nat.le_trans hS.1 z
  refine lv_aload_n hx hb dL_law_1621 rfl (lv_at hl 2 rfl) ?_
  refine lv_aload_n hx hb dL_law_1622 rfl (lv_at hl 1 rfl) ?_
  refine lv_iload hx hb dL_law_1623 (lv_at hl 0 rfl) ?_
  refine lv_iconstN hx hb 1 dL_law_1625 (by decide) ?_
  refine lv_iaddN hx hb dL_law_1626 ?_
  refine lw_sld hx hb hXs hbl hbb hS (show ii + 1 < Ln by omega) hLn dL_law_1627 ?_
  rw [hq1]
  refine lv_aload_n hx hb dL_law_1628 rfl (lv_at hl 1 rfl) ?_
  refine lv_iload hx hb dL_law_1629 (lv_at hl 0 rfl) ?_
  refine lv_iconstN hx hb 2 dL_law_1631 (by decide) ?_
  refine lv_iaddN hx hb dL_law_1632 ?_
  refine lw_sld hx hb hXs hbl hbb hS (show ii + 2 < Ln by omega) hLn dL_law_1633 ?_
  rw [hq2]
  refine lv_aload_n hx hb dL_law_1634 rfl (lv_at hl 1 rfl) ?_
  refine lv_iload hx hb dL_law_1635 (lv_at hl 0 rfl) ?_
  refine lv_iconstN hx hb 3 dL_law_1637 (by decide) ?_
  refine lv_iaddN hx hb dL_law_1638 ?_
  refine lw_sld hx hb hXs hbl hbb hS (show ii + 3 < Ln by omega) hLn dL_law_1639 ?_
  rw [hq3]
  refine lv_aload_n hx hb dL_law_1640 rfl (lv_at hl 1 rfl) ?_
  refine lv_iload hx hb dL_law_1641 (lv_at hl 0 rfl) ?_
  refine lv_iconstN hx hb 4 dL_law_1643 (by decide) ?_
  refine lv_iaddN hx hb dL_law_1644 ?_
  refine lw_sld hx hb hXs hbl hbb hS (show ii + 4 < Ln by omega) hLn dL_law_1645 ?_
  rw [hq4]
  refine lv_aload_n hx hb dL_law_1646 rfl (lv_at hl 1 rfl) ?_
  refine lv_iload hx hb dL_law_1647 (lv_at hl 0 rfl) ?_
  refine lv_iconstN hx hb 5 dL_law_1649 (by decide) ?_
  refine lv_iaddN hx hb dL_law_1650 ?_
  refine lw_sld hx hb hXs hbl hbb hS (show ii + 5 < Ln by omega) hLn dL_law_1651 ?_
  rw [hq5]
  refine lv_aload_n hx hb dL_law_1652 rfl (lv_at hl 4 rfl) ?_
  have hMt := mL_wouldWrong_b1 l hst hX hO hoL hob v w f u kd hv
  rw [hx0] at hMt
  refine lw_S (As := [.ref x, .int v, .int w, .int f, .int u, .int kd, .ref out]) (rest := []) hx hb hml hown hC hNc hS hAb hMt (fun q h => h.elim (hLb q) (fun h => h.elim (fun h => by rw [h]; exact hob) (hz0 q))) kW_L_168 ⟨rfl, rfl⟩ ⟨Nat.le_of_ble_eq_true rfl, Nat.le_of_ble_eq_true rfl⟩ rfl hl (Nat.le_of_ble_eq_true rfl) ⟨show cells + 1 ≤ 609960 by omega, show slots + 6 ≤ 7266223 by omega⟩ dL_law_1653 (fun H locs hB hS1 hz hkk => ?_)
  have hT := lt_x hX hM hx0 hm0 hdj hoL hoM hO hob hB hkk hS1
  obtain ⟨ly, L, ad, ly', L', ad', hX, hM, hx0, hm0, hdj, hoL, hoM, hO, hob, hS⟩ := hT
  have hLb := hX.2.2.1
  have hLbM := hM.2.2.1
  have hz0 : ∀ q, H.size ≤ q → bA E q := fun q z => by show E.2 0 ≤ q; rw [hE0]; exact Nat.le_trans hS.1 z
  refine lv_istore (lv' := [(5, .int (nI 1)), (4, .int (nI ii)), (0, .ref bb), (1, .ref x), (2, .ref mm), (3, .ref out)]) hx hb dL_law_1656 hl (by decide) rfl (fun ls hl => ?_)
  refine lv_aload_n hx hb dL_law_1658 rfl (lv_at hl 4 rfl) ?_
  refine lv_aload_n hx hb dL_law_1659 rfl (lv_at hl 2 rfl) ?_
  refine lv_iload hx hb dL_law_1660 (lv_at hl 1 rfl) ?_
  refine lv_iconstN hx hb 1 dL_law_1662 (by decide) ?_
  refine lv_iaddN hx hb dL_law_1663 ?_
  refine lw_sld hx hb hXs hbl hbb hS (show ii + 1 < Ln by omega) hLn dL_law_1664 ?_
  rw [hq1]
  refine lv_aload_n hx hb dL_law_1665 rfl (lv_at hl 2 rfl) ?_
  refine lv_iload hx hb dL_law_1666 (lv_at hl 1 rfl) ?_
  refine lv_iconstN hx hb 2 dL_law_1668 (by decide) ?_
  refine lv_iaddN hx hb dL_law_1669 ?_
  refine lw_sld hx hb hXs hbl hbb hS (show ii + 2 < Ln by omega) hLn dL_law_1670 ?_
  rw [hq2]
  refine lv_aload_n hx hb dL_law_1671 rfl (lv_at hl 2 rfl) ?_
  refine lv_iload hx hb dL_law_1672 (lv_at hl 1 rfl) ?_
  refine lv_iconstN hx hb 3 dL_law_1674 (by decide) ?_
  refine lv_iaddN hx hb dL_law_1675 ?_
  refine lw_sld hx hb hXs hbl hbb hS (show ii + 3 < Ln by omega) hLn dL_law_1676 ?_
  rw [hq3]
  refine lv_aload_n hx hb dL_law_1677 rfl (lv_at hl 2 rfl) ?_
  refine lv_iload hx hb dL_law_1678 (lv_at hl 1 rfl) ?_
  refine lv_iconstN hx hb 4 dL_law_1680 (by decide) ?_
  refine lv_iaddN hx hb dL_law_1681 ?_
  refine lw_sld hx hb hXs hbl hbb hS (show ii + 4 < Ln by omega) hLn dL_law_1682 ?_
  rw [hq4]
  refine lv_aload_n hx hb dL_law_1683 rfl (lv_at hl 2 rfl) ?_
  refine lv_iload hx hb dL_law_1684 (lv_at hl 1 rfl) ?_
  refine lv_iconstN hx hb 5 dL_law_1686 (by decide) ?_
  refine lv_iaddN hx hb dL_law_1687 ?_
  refine lw_sld hx hb hXs hbl hbb hS (show ii + 5 < Ln by omega) hLn dL_law_1688 ?_
  rw [hq5]
  have hMt := mX7_wouldWrong_b1 l hM v w f u kd (by rw [hv]; rfl)
  rw [hm0] at hMt
  refine mu_V (As := [.int v, .int w, .int f, .int u, .int kd]) (h0 := mm) (rest := []) (v := nI 0) hx hb hml hown hC hS hAb hMt (fun q h => h.elim (hLbM q) (hz0 q)) kV_L_171 ⟨rfl, rfl⟩ ⟨Nat.le_of_ble_eq_true rfl, Nat.le_of_ble_eq_true rfl⟩ (by rw [← hm0]; exact hM.1.recv hC cM_0 rfl) rfl hl (Nat.le_of_ble_eq_true rfl) ⟨show cells + 1 + 0 ≤ 609960 by omega, show slots + 6 + 0 ≤ 7266223 by omega⟩ dL_law_1689 (fun H locs hB hS1 hz hkk => ?_)
  have hT := lt_m hX hM hx0 hm0 hdj hoL hoM hO hob ⟨L', ly', ad', hB, hm0, fun q h => Or.inl h⟩ hkk hS1
  obtain ⟨ly, L, ad, ly', L', ad', hX, hM, hx0, hm0, hdj, hoL, hoM, hO, hob, hS⟩ := hT
  have hLb := hX.2.2.1
  have hLbM := hM.2.2.1
  have hz0 : ∀ q, H.size ≤ q → bA E q := fun q z => by show E.2 0 ≤ q; rw [hE0]; exact Nat.le_trans hS.1 z
  refine lv_istore (lv' := [(6, .int (nI 0)), (5, .int (nI 1)), (4, .int (nI ii)), (0, .ref bb), (1, .ref x), (2, .ref mm), (3, .ref out)]) hx hb dL_law_1692 hl (by decide) rfl (fun ls hl => ?_)
  refine lv_aload_n hx hb dL_law_1694 rfl (lv_at hl 5 rfl) ?_
  have hMt := mX7_thrown l hM
  rw [hm0] at hMt
  refine ro_V (As := []) (h0 := mm) (rest := []) (v := nI 1) hx hb hml hown hC hS hAb hMt kV_L_98 ⟨rfl, rfl⟩ ⟨Nat.le_of_ble_eq_true rfl, Nat.le_of_ble_eq_true rfl⟩ (by rw [← hm0]; exact hM.1.recv hC cM_0 rfl) rfl hl (Nat.le_of_ble_eq_true rfl) ⟨show cells + 1 + 0 ≤ 609960 by omega, show slots + 6 + 0 ≤ 7266223 by omega⟩ dL_law_1695 ?_
  refine lv_iload hx hb dL_law_1698 (lv_at hl 1 rfl) ?_
  refine lv_icmp_eq (tgt := 1705) hx hb dL_law_1700 (by decide) (fun _ => ?_) (fun c9 => absurd rfl c9)
  refine lv_iload hx hb dL_law_1705 (lv_at hl 1 rfl) ?_
  have hT : LT E s.heap x mm out _ _ _ _ H locs := ⟨ly, L, ad, ly', L', ad', hX, hM, hx0, hm0, hdj, hoL, hoM, hO, hob, hS⟩
  refine lv_if_ne (tgt := 1722) hx hb dL_law_1707 (by decide) (fun _ => ?_) (fun c9 => absurd c9 (by decide))
  refine lv_goto (tgt := 1820) hx hb dL_law_1722 (by decide) ?_
  refine W.widen (k := cells + 1100) (n := slots + 14000) (by omega) (by omega) ?_
  exact kk _ _ _ _ _ _ hT (lv_sub hl [2, 3, 4, 5, 6] rfl)
set_option maxHeartbeats 4000000 in
set_option maxRecDepth 100000 in
theorem lc_wouldWrong_b2 (C0 : LC p l s m co E bb Ln xs) {c : Cy} {th : Int32} {v0 : Int64} {H : Heap} {locs : List Loc} {x mm out : Nat} (hT : LT E s.heap x mm out c c th v0 H locs) {ii : Nat} (hii : ii + 7 ≤ Ln) {cells slots : Nat} (hcs : cells + 1100 ≤ 609960 ∧ slots + 14000 ≤ 7266223) {ls : Array Slot} (hl : lv_has ls 9 [(4, .int (nI ii)), (0, .ref bb), (1, .ref x), (2, .ref mm), (3, .ref out)]) (kk : KK p l e s m below meth co bb E Q x mm out ii cells slots) (h : Nat) (v f u kd : Int32) (hq1 : xs (ii + 1) = nI h) (hq2 : xs (ii + 2) = v) (hq3 : xs (ii + 3) = f) (hq4 : xs (ii + 4) = u) (hq5 : xs (ii + 5) = kd) (hh : h < c.R 10 1) (hv : isInS v (nI 0) (nI (c.R 10 0) - nI 1) = false) : W p l e room_1 s m #[Value.ref bb] below meth co H locs cells slots Q (F0 m 1621 ls []) := by
  obtain ⟨hx, hb, hml, hown, hC, hNc, hXs, hbl, hE0, hst, hLn⟩ := C0
  have hAb : ∀ q, bA E q → bA E q := fun _ h => h
  have hbb : ¬ bA E bb := by show ¬ E.2 0 ≤ bb; rw [hE0]; exact Nat.not_le.mpr hbl
  obtain ⟨ly, L, ad, ly', L', ad', hX, hM, hx0, hm0, hdj, hoL, hoM, hO, hob, hS⟩ := hT
  have hLb := hX.2.2.1
  have hLbM := hM.2.2.1
  have hz0 : ∀ q, H.size ≤ q → bA E q := fun q z => by show E.2 0 ≤ q; rw [hE0]; exact Nat.le_trans hS.1 z
  refine lv_aload_n hx hb dL_law_1621 rfl (lv_at hl 2 rfl) ?_
  refine lv_aload_n hx hb dL_law_1622 rfl (lv_at hl 1 rfl) ?_
  refine lv_iload hx hb dL_law_1623 (lv_at hl 0 rfl) ?_
  refine lv_iconstN hx hb 1 dL_law_1625 (by decide) ?_
  refine lv_iaddN hx hb dL_law_1626 ?_
  refine lw_sld hx hb hXs hbl hbb hS (show ii + 1 < Ln by omega) hLn dL_law_1627 ?_
  rw [hq1]
  refine lv_aload_n hx hb dL_law_1628 rfl (lv_at hl 1 rfl) ?_
  refine lv_iload hx hb dL_law_1629 (lv_at hl 0 rfl) ?_
  refine lv_iconstN hx hb 2 dL_law_1631 (by decide) ?_
  refine lv_iaddN hx hb dL_law_1632 ?_
  refine lw_sld hx hb hXs hbl hbb hS (show ii + 2 < Ln by omega) hLn dL_law_1633 ?_
  rw [hq2]
  refine lv_aload_n hx hb dL_law_1634 rfl (lv_at hl 1 rfl) ?_
  refine lv_iload hx hb dL_law_1635 (lv_at hl 0 rfl) ?_
  refine lv_iconstN hx hb 3 dL_law_1637 (by decide) ?_
  refine lv_iaddN hx hb dL_law_1638 ?_
  refine lw_sld hx hb hXs hbl hbb hS (show ii + 3 < Ln by omega) hLn dL_law_1639 ?_
  rw [hq3]
  refine lv_aload_n hx hb dL_law_1640 rfl (lv_at hl 1 rfl) ?_
  refine lv_iload hx hb dL_law_1641 (lv_at hl 0 rfl) ?_
  refine lv_iconstN hx hb 4 dL_law_1643 (by decide) ?_
  refine lv_iaddN hx hb dL_law_1644 ?_
  refine lw_sld hx hb hXs hbl hbb hS (show ii + 4 < Ln by omega) hLn dL_law_1645 ?_
  rw [hq4]
  refine lv_aload_n hx hb dL_law_1646 rfl (lv_at hl 1 rfl) ?_
  refine lv_iload hx hb dL_law_1647 (lv_at hl 0 rfl) ?_
  refine lv_iconstN hx hb 5 dL_law_1649 (by decide) ?_
  refine lv_iaddN hx hb dL_law_1650 ?_
  refine lw_sld hx hb hXs hbl hbb hS (show ii + 5 < Ln by omega) hLn dL_law_1651 ?_
  rw [hq5]
  refine lv_aload_n hx hb dL_law_1652 rfl (lv_at hl 4 rfl) ?_
  have hMt := mL_wouldWrong_b2 l hst hX hO hoL hob h v f u kd hh hv
  rw [hx0] at hMt
  refine lw_S (As := [.ref x, .int (nI h), .int v, .int f, .int u, .int kd, .ref out]) (rest := []) hx hb hml hown hC hNc hS hAb hMt (fun q h => h.elim (hLb q) (fun h => h.elim (fun h => by rw [h]; exact hob) (hz0 q))) kW_L_168 ⟨rfl, rfl⟩ ⟨Nat.le_of_ble_eq_true rfl, Nat.le_of_ble_eq_true rfl⟩ rfl hl (Nat.le_of_ble_eq_true rfl) ⟨show cells + 1 ≤ 609960 by omega, show slots + 6 ≤ 7266223 by omega⟩ dL_law_1653 (fun H locs hB hS1 hz hkk => ?_)
  have hT := lt_x hX hM hx0 hm0 hdj hoL hoM hO hob hB hkk hS1
  obtain ⟨ly, L, ad, ly', L', ad', hX, hM, hx0, hm0, hdj, hoL, hoM, hO, hob, hS⟩ := hT
  have hLb := hX.2.2.1
  have hLbM := hM.2.2.1
  have hz0 : ∀ q, H.size ≤ q → bA E q := fun q z => by show E.2 0 ≤ q; rw [hE0]; exact Nat.le_trans hS.1 z
  refine lv_istore (lv' := [(5, .int (nI 1)), (4, .int (nI ii)), (0, .ref bb), (1, .ref x), (2, .ref mm), (3, .ref out)]) hx hb dL_law_1656 hl (by decide) rfl (fun ls hl => ?_)
  refine lv_aload_n hx hb dL_law_1658 rfl (lv_at hl 4 rfl) ?_
  refine lv_aload_n hx hb dL_law_1659 rfl (lv_at hl 2 rfl) ?_
  refine lv_iload hx hb dL_law_1660 (lv_at hl 1 rfl) ?_
  refine lv_iconstN hx hb 1 dL_law_1662 (by decide) ?_
  refine lv_iaddN hx hb dL_law_1663 ?_
  refine lw_sld hx hb hXs hbl hbb hS (show ii + 1 < Ln by omega) hLn dL_law_1664 ?_
  rw [hq1]
  refine lv_aload_n hx hb dL_law_1665 rfl (lv_at hl 2 rfl) ?_
  refine lv_iload hx hb dL_law_1666 (lv_at hl 1 rfl) ?_
  refine lv_iconstN hx hb 2 dL_law_1668 (by decide) ?_
  refine lv_iaddN hx hb dL_law_1669 ?_
  refine lw_sld hx hb hXs hbl hbb hS (show ii + 2 < Ln by omega) hLn dL_law_1670 ?_
  rw [hq2]
  refine lv_aload_n hx hb dL_law_1671 rfl (lv_at hl 2 rfl) ?_
  refine lv_iload hx hb dL_law_1672 (lv_at hl 1 rfl) ?_
  refine lv_iconstN hx hb 3 dL_law_1674 (by decide) ?_
  refine lv_iaddN hx hb dL_law_1675 ?_
  refine lw_sld hx hb hXs hbl hbb hS (show ii + 3 < Ln by omega) hLn dL_law_1676 ?_
  rw [hq3]
  refine lv_aload_n hx hb dL_law_1677 rfl (lv_at hl 2 rfl) ?_
  refine lv_iload hx hb dL_law_1678 (lv_at hl 1 rfl) ?_
  refine lv_iconstN hx hb 4 dL_law_1680 (by decide) ?_
  refine lv_iaddN hx hb dL_law_1681 ?_
  refine lw_sld hx hb hXs hbl hbb hS (show ii + 4 < Ln by omega) hLn dL_law_1682 ?_
  rw [hq4]
  refine lv_aload_n hx hb dL_law_1683 rfl (lv_at hl 2 rfl) ?_
  refine lv_iload hx hb dL_law_1684 (lv_at hl 1 rfl) ?_
  refine lv_iconstN hx hb 5 dL_law_1686 (by decide) ?_
  refine lv_iaddN hx hb dL_law_1687 ?_
  refine lw_sld hx hb hXs hbl hbb hS (show ii + 5 < Ln by omega) hLn dL_law_1688 ?_
  rw [hq5]
  have hMt := mX7_wouldWrong_b1 l hM (nI h) v f u kd (by rw [hv, Bool.and_false])
  rw [hm0] at hMt
  refine mu_V (As := [.int (nI h), .int v, .int f, .int u, .int kd]) (h0 := mm) (rest := []) (v := nI 0) hx hb hml hown hC hS hAb hMt (fun q h => h.elim (hLbM q) (hz0 q)) kV_L_171 ⟨rfl, rfl⟩ ⟨Nat.le_of_ble_eq_true rfl, Nat.le_of_ble_eq_true rfl⟩ (by rw [← hm0]; exact hM.1.recv hC cM_0 rfl) rfl hl (Nat.le_of_ble_eq_true rfl) ⟨show cells + 1 + 0 ≤ 609960 by omega, show slots + 6 + 0 ≤ 7266223 by omega⟩ dL_law_1689 (fun H locs hB hS1 hz hkk => ?_)
  have hT := lt_m hX hM hx0 hm0 hdj hoL hoM hO hob ⟨L', ly', ad', hB, hm0, fun q h => Or.inl h⟩ hkk hS1
  obtain ⟨ly, L, ad, ly', L', ad', hX, hM, hx0, hm0, hdj, hoL, hoM, hO, hob, hS⟩ := hT
  have hLb := hX.2.2.1
  have hLbM := hM.2.2.1
  have hz0 : ∀ q, H.size ≤ q → bA E q := fun q z => by show E.2 0 ≤ q; rw [hE0]; exact Nat.le_trans hS.1 z
  refine lv_istore (lv' := [(6, .int (nI 0)), (5, .int (nI 1)), (4, .int (nI ii)), (0, .ref bb), (1, .ref x), (2, .ref mm), (3, .ref out)]) hx hb dL_law_1692 hl (by decide) rfl (fun ls hl => ?_)
  refine lv_aload_n hx hb dL_law_1694 rfl (lv_at hl 5 rfl) ?_
  have hMt := mX7_thrown l hM
  rw [hm0] at hMt
  refine ro_V (As := []) (h0 := mm) (rest := []) (v := nI 1) hx hb hml hown hC hS hAb hMt kV_L_98 ⟨rfl, rfl⟩ ⟨Nat.le_of_ble_eq_true rfl, Nat.le_of_ble_eq_true rfl⟩ (by rw [← hm0]; exact hM.1.recv hC cM_0 rfl) rfl hl (Nat.le_of_ble_eq_true rfl) ⟨show cells + 1 + 0 ≤ 609960 by omega, show slots + 6 + 0 ≤ 7266223 by omega⟩ dL_law_1695 ?_
  refine lv_iload hx hb dL_law_1698 (lv_at hl 1 rfl) ?_
  refine lv_icmp_eq (tgt := 1705) hx hb dL_law_1700 (by decide) (fun _ => ?_) (fun c9 => absurd rfl c9)
  refine lv_iload hx hb dL_law_1705 (lv_at hl 1 rfl) ?_
  have hT : LT E s.heap x mm out _ _ _ _ H locs := ⟨ly, L, ad, ly', L', ad', hX, hM, hx0, hm0, hdj, hoL, hoM, hO, hob, hS⟩
  refine lv_if_ne (tgt := 1722) hx hb dL_law_1707 (by decide) (fun _ => ?_) (fun c9 => absurd c9 (by decide))
  refine lv_goto (tgt := 1820) hx hb dL_law_1722 (by decide) ?_
  refine W.widen (k := cells + 1100) (n := slots + 14000) (by omega) (by omega) ?_
  exact kk _ _ _ _ _ _ hT (lv_sub hl [2, 3, 4, 5, 6] rfl)
set_option maxHeartbeats 4000000 in
set_option maxRecDepth 100000 in
theorem lc_wouldWrong_b3 (C0 : LC p l s m co E bb Ln xs) {c : Cy} {th : Int32} {v0 : Int64} {H : Heap} {locs : List Loc} {x mm out : Nat} (hT : LT E s.heap x mm out c c th v0 H locs) {ii : Nat} (hii : ii + 7 ≤ Ln) {cells slots : Nat} (hcs : cells + 1100 ≤ 609960 ∧ slots + 14000 ≤ 7266223) {ls : Array Slot} (hl : lv_has ls 9 [(4, .int (nI ii)), (0, .ref bb), (1, .ref x), (2, .ref mm), (3, .ref out)]) (kk : KK p l e s m below meth co bb E Q x mm out ii cells slots) (h i : Nat) (f u kd : Int32) (hq1 : xs (ii + 1) = nI h) (hq2 : xs (ii + 2) = nI i) (hq3 : xs (ii + 3) = f) (hq4 : xs (ii + 4) = u) (hq5 : xs (ii + 5) = kd) (hh : h < c.R 10 1) (hi : i < c.R 10 0) (hf : hasS c i f u = false) : W p l e room_1 s m #[Value.ref bb] below meth co H locs cells slots Q (F0 m 1621 ls []) := by
  obtain ⟨hx, hb, hml, hown, hC, hNc, hXs, hbl, hE0, hst, hLn⟩ := C0
  have hAb : ∀ q, bA E q → bA E q := fun _ h => h
  have hbb : ¬ bA E bb := by show ¬ E.2 0 ≤ bb; rw [hE0]; exact Nat.not_le.mpr hbl
  obtain ⟨ly, L, ad, ly', L', ad', hX, hM, hx0, hm0, hdj, hoL, hoM, hO, hob, hS⟩ := hT
  have hLb := hX.2.2.1
  have hLbM := hM.2.2.1
  have hz0 : ∀ q, H.size ≤ q → bA E q := fun q z => by show E.2 0 ≤ q; rw [hE0]; exact Nat.le_trans hS.1 z
  refine lv_aload_n hx hb dL_law_1621 rfl (lv_at hl 2 rfl) ?_
  refine lv_aload_n hx hb dL_law_1622 rfl (lv_at hl 1 rfl) ?_
  refine lv_iload hx hb dL_law_1623 (lv_at hl 0 rfl) ?_
  refine lv_iconstN hx hb 1 dL_law_1625 (by decide) ?_
  refine lv_iaddN hx hb dL_law_1626 ?_
  refine lw_sld hx hb hXs hbl hbb hS (show ii + 1 < Ln by omega) hLn dL_law_1627 ?_
  rw [hq1]
  refine lv_aload_n hx hb dL_law_1628 rfl (lv_at hl 1 rfl) ?_
  refine lv_iload hx hb dL_law_1629 (lv_at hl 0 rfl) ?_
  refine lv_iconstN hx hb 2 dL_law_1631 (by decide) ?_
  refine lv_iaddN hx hb dL_law_1632 ?_
  refine lw_sld hx hb hXs hbl hbb hS (show ii + 2 < Ln by omega) hLn dL_law_1633 ?_
  rw [hq2]
  refine lv_aload_n hx hb dL_law_1634 rfl (lv_at hl 1 rfl) ?_
  refine lv_iload hx hb dL_law_1635 (lv_at hl 0 rfl) ?_
  refine lv_iconstN hx hb 3 dL_law_1637 (by decide) ?_
  refine lv_iaddN hx hb dL_law_1638 ?_
  refine lw_sld hx hb hXs hbl hbb hS (show ii + 3 < Ln by omega) hLn dL_law_1639 ?_
  rw [hq3]
  refine lv_aload_n hx hb dL_law_1640 rfl (lv_at hl 1 rfl) ?_
  refine lv_iload hx hb dL_law_1641 (lv_at hl 0 rfl) ?_
  refine lv_iconstN hx hb 4 dL_law_1643 (by decide) ?_
  refine lv_iaddN hx hb dL_law_1644 ?_
  refine lw_sld hx hb hXs hbl hbb hS (show ii + 4 < Ln by omega) hLn dL_law_1645 ?_
  rw [hq4]
  refine lv_aload_n hx hb dL_law_1646 rfl (lv_at hl 1 rfl) ?_
  refine lv_iload hx hb dL_law_1647 (lv_at hl 0 rfl) ?_
  refine lv_iconstN hx hb 5 dL_law_1649 (by decide) ?_
  refine lv_iaddN hx hb dL_law_1650 ?_
  refine lw_sld hx hb hXs hbl hbb hS (show ii + 5 < Ln by omega) hLn dL_law_1651 ?_
  rw [hq5]
  refine lv_aload_n hx hb dL_law_1652 rfl (lv_at hl 4 rfl) ?_
  have hMt := mL_wouldWrong_b3 l hst hX hO hoL hob h i f u kd hh hi hf
  rw [hx0] at hMt
  refine lw_S (As := [.ref x, .int (nI h), .int (nI i), .int f, .int u, .int kd, .ref out]) (rest := []) hx hb hml hown hC hNc hS hAb hMt (fun q h => h.elim (hLb q) (fun h => h.elim (fun h => by rw [h]; exact hob) (hz0 q))) kW_L_168 ⟨rfl, rfl⟩ ⟨Nat.le_of_ble_eq_true rfl, Nat.le_of_ble_eq_true rfl⟩ rfl hl (Nat.le_of_ble_eq_true rfl) ⟨show cells + 1 ≤ 609960 by omega, show slots + 6 ≤ 7266223 by omega⟩ dL_law_1653 (fun H locs hB hS1 hz hkk => ?_)
  have hT := lt_x hX hM hx0 hm0 hdj hoL hoM hO hob hB hkk hS1
  obtain ⟨ly, L, ad, ly', L', ad', hX, hM, hx0, hm0, hdj, hoL, hoM, hO, hob, hS⟩ := hT
  have hLb := hX.2.2.1
  have hLbM := hM.2.2.1
  have hz0 : ∀ q, H.size ≤ q → bA E q := fun q z => by show E.2 0 ≤ q; rw [hE0]; exact Nat.le_trans hS.1 z
  refine lv_istore (lv' := [(5, .int (nI 2)), (4, .int (nI ii)), (0, .ref bb), (1, .ref x), (2, .ref mm), (3, .ref out)]) hx hb dL_law_1656 hl (by decide) rfl (fun ls hl => ?_)
  refine lv_aload_n hx hb dL_law_1658 rfl (lv_at hl 4 rfl) ?_
  refine lv_aload_n hx hb dL_law_1659 rfl (lv_at hl 2 rfl) ?_
  refine lv_iload hx hb dL_law_1660 (lv_at hl 1 rfl) ?_
  refine lv_iconstN hx hb 1 dL_law_1662 (by decide) ?_
  refine lv_iaddN hx hb dL_law_1663 ?_
  refine lw_sld hx hb hXs hbl hbb hS (show ii + 1 < Ln by omega) hLn dL_law_1664 ?_
  rw [hq1]
  refine lv_aload_n hx hb dL_law_1665 rfl (lv_at hl 2 rfl) ?_
  refine lv_iload hx hb dL_law_1666 (lv_at hl 1 rfl) ?_
  refine lv_iconstN hx hb 2 dL_law_1668 (by decide) ?_
  refine lv_iaddN hx hb dL_law_1669 ?_
  refine lw_sld hx hb hXs hbl hbb hS (show ii + 2 < Ln by omega) hLn dL_law_1670 ?_
  rw [hq2]
  refine lv_aload_n hx hb dL_law_1671 rfl (lv_at hl 2 rfl) ?_
  refine lv_iload hx hb dL_law_1672 (lv_at hl 1 rfl) ?_
  refine lv_iconstN hx hb 3 dL_law_1674 (by decide) ?_
  refine lv_iaddN hx hb dL_law_1675 ?_
  refine lw_sld hx hb hXs hbl hbb hS (show ii + 3 < Ln by omega) hLn dL_law_1676 ?_
  rw [hq3]
  refine lv_aload_n hx hb dL_law_1677 rfl (lv_at hl 2 rfl) ?_
  refine lv_iload hx hb dL_law_1678 (lv_at hl 1 rfl) ?_
  refine lv_iconstN hx hb 4 dL_law_1680 (by decide) ?_
  refine lv_iaddN hx hb dL_law_1681 ?_
  refine lw_sld hx hb hXs hbl hbb hS (show ii + 4 < Ln by omega) hLn dL_law_1682 ?_
  rw [hq4]
  refine lv_aload_n hx hb dL_law_1683 rfl (lv_at hl 2 rfl) ?_
  refine lv_iload hx hb dL_law_1684 (lv_at hl 1 rfl) ?_
  refine lv_iconstN hx hb 5 dL_law_1686 (by decide) ?_
  refine lv_iaddN hx hb dL_law_1687 ?_
  refine lw_sld hx hb hXs hbl hbb hS (show ii + 5 < Ln by omega) hLn dL_law_1688 ?_
  rw [hq5]
  have hMt := mX7_wouldWrong_b2 l hM h i f u kd hh hi (by rw [hf]; rfl)
  rw [hm0] at hMt
  refine mu_V (As := [.int (nI h), .int (nI i), .int f, .int u, .int kd]) (h0 := mm) (rest := []) (v := nI 0) hx hb hml hown hC hS hAb hMt (fun q h => h.elim (hLbM q) (hz0 q)) kV_L_171 ⟨rfl, rfl⟩ ⟨Nat.le_of_ble_eq_true rfl, Nat.le_of_ble_eq_true rfl⟩ (by rw [← hm0]; exact hM.1.recv hC cM_0 rfl) rfl hl (Nat.le_of_ble_eq_true rfl) ⟨show cells + 1 + 0 ≤ 609960 by omega, show slots + 6 + 0 ≤ 7266223 by omega⟩ dL_law_1689 (fun H locs hB hS1 hz hkk => ?_)
  have hT := lt_m hX hM hx0 hm0 hdj hoL hoM hO hob ⟨L', ly', ad', hB, hm0, fun q h => Or.inl h⟩ hkk hS1
  obtain ⟨ly, L, ad, ly', L', ad', hX, hM, hx0, hm0, hdj, hoL, hoM, hO, hob, hS⟩ := hT
  have hLb := hX.2.2.1
  have hLbM := hM.2.2.1
  have hz0 : ∀ q, H.size ≤ q → bA E q := fun q z => by show E.2 0 ≤ q; rw [hE0]; exact Nat.le_trans hS.1 z
  refine lv_istore (lv' := [(6, .int (nI 0)), (5, .int (nI 2)), (4, .int (nI ii)), (0, .ref bb), (1, .ref x), (2, .ref mm), (3, .ref out)]) hx hb dL_law_1692 hl (by decide) rfl (fun ls hl => ?_)
  refine lv_aload_n hx hb dL_law_1694 rfl (lv_at hl 5 rfl) ?_
  have hMt := mX7_thrown l hM
  rw [hm0] at hMt
  refine ro_V (As := []) (h0 := mm) (rest := []) (v := nI 2) hx hb hml hown hC hS hAb hMt kV_L_98 ⟨rfl, rfl⟩ ⟨Nat.le_of_ble_eq_true rfl, Nat.le_of_ble_eq_true rfl⟩ (by rw [← hm0]; exact hM.1.recv hC cM_0 rfl) rfl hl (Nat.le_of_ble_eq_true rfl) ⟨show cells + 1 + 0 ≤ 609960 by omega, show slots + 6 + 0 ≤ 7266223 by omega⟩ dL_law_1695 ?_
  refine lv_iload hx hb dL_law_1698 (lv_at hl 1 rfl) ?_
  refine lv_icmp_eq (tgt := 1705) hx hb dL_law_1700 (by decide) (fun _ => ?_) (fun c9 => absurd rfl c9)
  refine lv_iload hx hb dL_law_1705 (lv_at hl 1 rfl) ?_
  have hT : LT E s.heap x mm out _ _ _ _ H locs := ⟨ly, L, ad, ly', L', ad', hX, hM, hx0, hm0, hdj, hoL, hoM, hO, hob, hS⟩
  refine lv_if_ne (tgt := 1722) hx hb dL_law_1707 (by decide) (fun _ => ?_) (fun c9 => absurd c9 (by decide))
  refine lv_goto (tgt := 1820) hx hb dL_law_1722 (by decide) ?_
  refine W.widen (k := cells + 1100) (n := slots + 14000) (by omega) (by omega) ?_
  exact kk _ _ _ _ _ _ hT (lv_sub hl [2, 3, 4, 5, 6] rfl)
set_option maxHeartbeats 4000000 in
set_option maxRecDepth 100000 in
theorem lc_wouldWrong_b4 (C0 : LC p l s m co E bb Ln xs) {c : Cy} {th : Int32} {v0 : Int64} {H : Heap} {locs : List Loc} {x mm out : Nat} (hT : LT E s.heap x mm out c c th v0 H locs) {ii : Nat} (hii : ii + 7 ≤ Ln) {cells slots : Nat} (hcs : cells + 1100 ≤ 609960 ∧ slots + 14000 ≤ 7266223) {ls : Array Slot} (hl : lv_has ls 9 [(4, .int (nI ii)), (0, .ref bb), (1, .ref x), (2, .ref mm), (3, .ref out)]) (kk : KK p l e s m below meth co bb E Q x mm out ii cells slots) (h i : Nat) (f u kd : Int32) (hq1 : xs (ii + 1) = nI h) (hq2 : xs (ii + 2) = nI i) (hq3 : xs (ii + 3) = f) (hq4 : xs (ii + 4) = u) (hq5 : xs (ii + 5) = kd) (hh : h < c.R 10 1) (hi : i < c.R 10 0) (hf : hasS c i f u = true) (hk : isInS kd (nI 0) (nI 3) = false) : W p l e room_1 s m #[Value.ref bb] below meth co H locs cells slots Q (F0 m 1621 ls []) := by
  obtain ⟨hx, hb, hml, hown, hC, hNc, hXs, hbl, hE0, hst, hLn⟩ := C0
  have hAb : ∀ q, bA E q → bA E q := fun _ h => h
  have hbb : ¬ bA E bb := by show ¬ E.2 0 ≤ bb; rw [hE0]; exact Nat.not_le.mpr hbl
  obtain ⟨ly, L, ad, ly', L', ad', hX, hM, hx0, hm0, hdj, hoL, hoM, hO, hob, hS⟩ := hT
  have hLb := hX.2.2.1
  have hLbM := hM.2.2.1
  have hz0 : ∀ q, H.size ≤ q → bA E q := fun q z => by show E.2 0 ≤ q; rw [hE0]; exact Nat.le_trans hS.1 z
  refine lv_aload_n hx hb dL_law_1621 rfl (lv_at hl 2 rfl) ?_
  refine lv_aload_n hx hb dL_law_1622 rfl (lv_at hl 1 rfl) ?_
  refine lv_iload hx hb dL_law_1623 (lv_at hl 0 rfl) ?_
  refine lv_iconstN hx hb 1 dL_law_1625 (by decide) ?_
  refine lv_iaddN hx hb dL_law_1626 ?_
  refine lw_sld hx hb hXs hbl hbb hS (show ii + 1 < Ln by omega) hLn dL_law_1627 ?_
  rw [hq1]
  refine lv_aload_n hx hb dL_law_1628 rfl (lv_at hl 1 rfl) ?_
  refine lv_iload hx hb dL_law_1629 (lv_at hl 0 rfl) ?_
  refine lv_iconstN hx hb 2 dL_law_1631 (by decide) ?_
  refine lv_iaddN hx hb dL_law_1632 ?_
  refine lw_sld hx hb hXs hbl hbb hS (show ii + 2 < Ln by omega) hLn dL_law_1633 ?_
  rw [hq2]
  refine lv_aload_n hx hb dL_law_1634 rfl (lv_at hl 1 rfl) ?_
  refine lv_iload hx hb dL_law_1635 (lv_at hl 0 rfl) ?_
  refine lv_iconstN hx hb 3 dL_law_1637 (by decide) ?_
  refine lv_iaddN hx hb dL_law_1638 ?_
  refine lw_sld hx hb hXs hbl hbb hS (show ii + 3 < Ln by omega) hLn dL_law_1639 ?_
  rw [hq3]
  refine lv_aload_n hx hb dL_law_1640 rfl (lv_at hl 1 rfl) ?_
  refine lv_iload hx hb dL_law_1641 (lv_at hl 0 rfl) ?_
  refine lv_iconstN hx hb 4 dL_law_1643 (by decide) ?_
  refine lv_iaddN hx hb dL_law_1644 ?_
  refine lw_sld hx hb hXs hbl hbb hS (show ii + 4 < Ln by omega) hLn dL_law_1645 ?_
  rw [hq4]
  refine lv_aload_n hx hb dL_law_1646 rfl (lv_at hl 1 rfl) ?_
  refine lv_iload hx hb dL_law_1647 (lv_at hl 0 rfl) ?_
  refine lv_iconstN hx hb 5 dL_law_1649 (by decide) ?_
  refine lv_iaddN hx hb dL_law_1650 ?_
  refine lw_sld hx hb hXs hbl hbb hS (show ii + 5 < Ln by omega) hLn dL_law_1651 ?_
  rw [hq5]
  refine lv_aload_n hx hb dL_law_1652 rfl (lv_at hl 4 rfl) ?_
  have hMt := mL_wouldWrong_b4 l hst hX hO hoL hob h i f u kd hh hi hf hk
  rw [hx0] at hMt
  refine lw_S (As := [.ref x, .int (nI h), .int (nI i), .int f, .int u, .int kd, .ref out]) (rest := []) hx hb hml hown hC hNc hS hAb hMt (fun q h => h.elim (hLb q) (fun h => h.elim (fun h => by rw [h]; exact hob) (hz0 q))) kW_L_168 ⟨rfl, rfl⟩ ⟨Nat.le_of_ble_eq_true rfl, Nat.le_of_ble_eq_true rfl⟩ rfl hl (Nat.le_of_ble_eq_true rfl) ⟨show cells + 1 ≤ 609960 by omega, show slots + 6 ≤ 7266223 by omega⟩ dL_law_1653 (fun H locs hB hS1 hz hkk => ?_)
  have hT := lt_x hX hM hx0 hm0 hdj hoL hoM hO hob hB hkk hS1
  obtain ⟨ly, L, ad, ly', L', ad', hX, hM, hx0, hm0, hdj, hoL, hoM, hO, hob, hS⟩ := hT
  have hLb := hX.2.2.1
  have hLbM := hM.2.2.1
  have hz0 : ∀ q, H.size ≤ q → bA E q := fun q z => by show E.2 0 ≤ q; rw [hE0]; exact Nat.le_trans hS.1 z
  refine lv_istore (lv' := [(5, .int (nI 2)), (4, .int (nI ii)), (0, .ref bb), (1, .ref x), (2, .ref mm), (3, .ref out)]) hx hb dL_law_1656 hl (by decide) rfl (fun ls hl => ?_)
  refine lv_aload_n hx hb dL_law_1658 rfl (lv_at hl 4 rfl) ?_
  refine lv_aload_n hx hb dL_law_1659 rfl (lv_at hl 2 rfl) ?_
  refine lv_iload hx hb dL_law_1660 (lv_at hl 1 rfl) ?_
  refine lv_iconstN hx hb 1 dL_law_1662 (by decide) ?_
  refine lv_iaddN hx hb dL_law_1663 ?_
  refine lw_sld hx hb hXs hbl hbb hS (show ii + 1 < Ln by omega) hLn dL_law_1664 ?_
  rw [hq1]
  refine lv_aload_n hx hb dL_law_1665 rfl (lv_at hl 2 rfl) ?_
  refine lv_iload hx hb dL_law_1666 (lv_at hl 1 rfl) ?_
  refine lv_iconstN hx hb 2 dL_law_1668 (by decide) ?_
  refine lv_iaddN hx hb dL_law_1669 ?_
  refine lw_sld hx hb hXs hbl hbb hS (show ii + 2 < Ln by omega) hLn dL_law_1670 ?_
  rw [hq2]
  refine lv_aload_n hx hb dL_law_1671 rfl (lv_at hl 2 rfl) ?_
  refine lv_iload hx hb dL_law_1672 (lv_at hl 1 rfl) ?_
  refine lv_iconstN hx hb 3 dL_law_1674 (by decide) ?_
  refine lv_iaddN hx hb dL_law_1675 ?_
  refine lw_sld hx hb hXs hbl hbb hS (show ii + 3 < Ln by omega) hLn dL_law_1676 ?_
  rw [hq3]
  refine lv_aload_n hx hb dL_law_1677 rfl (lv_at hl 2 rfl) ?_
  refine lv_iload hx hb dL_law_1678 (lv_at hl 1 rfl) ?_
  refine lv_iconstN hx hb 4 dL_law_1680 (by decide) ?_
  refine lv_iaddN hx hb dL_law_1681 ?_
  refine lw_sld hx hb hXs hbl hbb hS (show ii + 4 < Ln by omega) hLn dL_law_1682 ?_
  rw [hq4]
  refine lv_aload_n hx hb dL_law_1683 rfl (lv_at hl 2 rfl) ?_
  refine lv_iload hx hb dL_law_1684 (lv_at hl 1 rfl) ?_
  refine lv_iconstN hx hb 5 dL_law_1686 (by decide) ?_
  refine lv_iaddN hx hb dL_law_1687 ?_
  refine lw_sld hx hb hXs hbl hbb hS (show ii + 5 < Ln by omega) hLn dL_law_1688 ?_
  rw [hq5]
  have hMt := mX7_wouldWrong_b2 l hM h i f u kd hh hi (by rw [hk, Bool.and_false])
  rw [hm0] at hMt
  refine mu_V (As := [.int (nI h), .int (nI i), .int f, .int u, .int kd]) (h0 := mm) (rest := []) (v := nI 0) hx hb hml hown hC hS hAb hMt (fun q h => h.elim (hLbM q) (hz0 q)) kV_L_171 ⟨rfl, rfl⟩ ⟨Nat.le_of_ble_eq_true rfl, Nat.le_of_ble_eq_true rfl⟩ (by rw [← hm0]; exact hM.1.recv hC cM_0 rfl) rfl hl (Nat.le_of_ble_eq_true rfl) ⟨show cells + 1 + 0 ≤ 609960 by omega, show slots + 6 + 0 ≤ 7266223 by omega⟩ dL_law_1689 (fun H locs hB hS1 hz hkk => ?_)
  have hT := lt_m hX hM hx0 hm0 hdj hoL hoM hO hob ⟨L', ly', ad', hB, hm0, fun q h => Or.inl h⟩ hkk hS1
  obtain ⟨ly, L, ad, ly', L', ad', hX, hM, hx0, hm0, hdj, hoL, hoM, hO, hob, hS⟩ := hT
  have hLb := hX.2.2.1
  have hLbM := hM.2.2.1
  have hz0 : ∀ q, H.size ≤ q → bA E q := fun q z => by show E.2 0 ≤ q; rw [hE0]; exact Nat.le_trans hS.1 z
  refine lv_istore (lv' := [(6, .int (nI 0)), (5, .int (nI 2)), (4, .int (nI ii)), (0, .ref bb), (1, .ref x), (2, .ref mm), (3, .ref out)]) hx hb dL_law_1692 hl (by decide) rfl (fun ls hl => ?_)
  refine lv_aload_n hx hb dL_law_1694 rfl (lv_at hl 5 rfl) ?_
  have hMt := mX7_thrown l hM
  rw [hm0] at hMt
  refine ro_V (As := []) (h0 := mm) (rest := []) (v := nI 2) hx hb hml hown hC hS hAb hMt kV_L_98 ⟨rfl, rfl⟩ ⟨Nat.le_of_ble_eq_true rfl, Nat.le_of_ble_eq_true rfl⟩ (by rw [← hm0]; exact hM.1.recv hC cM_0 rfl) rfl hl (Nat.le_of_ble_eq_true rfl) ⟨show cells + 1 + 0 ≤ 609960 by omega, show slots + 6 + 0 ≤ 7266223 by omega⟩ dL_law_1695 ?_
  refine lv_iload hx hb dL_law_1698 (lv_at hl 1 rfl) ?_
  refine lv_icmp_eq (tgt := 1705) hx hb dL_law_1700 (by decide) (fun _ => ?_) (fun c9 => absurd rfl c9)
  refine lv_iload hx hb dL_law_1705 (lv_at hl 1 rfl) ?_
  have hT : LT E s.heap x mm out _ _ _ _ H locs := ⟨ly, L, ad, ly', L', ad', hX, hM, hx0, hm0, hdj, hoL, hoM, hO, hob, hS⟩
  refine lv_if_ne (tgt := 1722) hx hb dL_law_1707 (by decide) (fun _ => ?_) (fun c9 => absurd c9 (by decide))
  refine lv_goto (tgt := 1820) hx hb dL_law_1722 (by decide) ?_
  refine W.widen (k := cells + 1100) (n := slots + 14000) (by omega) (by omega) ?_
  exact kk _ _ _ _ _ _ hT (lv_sub hl [2, 3, 4, 5, 6] rfl)
set_option maxHeartbeats 4000000 in
set_option maxRecDepth 100000 in
theorem lc_wouldFame_g (C0 : LC p l s m co E bb Ln xs) {c : Cy} {th : Int32} {v0 : Int64} {H : Heap} {locs : List Loc} {x mm out : Nat} (hT : LT E s.heap x mm out c c th v0 H locs) {ii : Nat} (hii : ii + 7 ≤ Ln) {cells slots : Nat} (hcs : cells + 1100 ≤ 609960 ∧ slots + 14000 ≤ 7266223) {ls : Array Slot} (hl : lv_has ls 9 [(4, .int (nI ii)), (0, .ref bb), (1, .ref x), (2, .ref mm), (3, .ref out)]) (kk : KK p l e s m below meth co bb E Q x mm out ii cells slots) (h n : Nat) (hq1 : xs (ii + 1) = nI h) (hq2 : xs (ii + 2) = nI n) (hh : h < c.R 10 1) (hn : n ≤ 30) : W p l e room_1 s m #[Value.ref bb] below meth co H locs cells slots Q (F0 m 1738 ls []) := by
  obtain ⟨hx, hb, hml, hown, hC, hNc, hXs, hbl, hE0, hst, hLn⟩ := C0
  have hAb : ∀ q, bA E q → bA E q := fun _ h => h
  have hbb : ¬ bA E bb := by show ¬ E.2 0 ≤ bb; rw [hE0]; exact Nat.not_le.mpr hbl
  obtain ⟨ly, L, ad, ly', L', ad', hX, hM, hx0, hm0, hdj, hoL, hoM, hO, hob, hS⟩ := hT
  have hLb := hX.2.2.1
  have hLbM := hM.2.2.1
  have hz0 : ∀ q, H.size ≤ q → bA E q := fun q z => by show E.2 0 ≤ q; rw [hE0]; exact Nat.le_trans hS.1 z
  refine lv_aload_n hx hb dL_law_1738 rfl (lv_at hl 2 rfl) ?_
  refine lv_aload_n hx hb dL_law_1739 rfl (lv_at hl 1 rfl) ?_
  refine lv_iload hx hb dL_law_1740 (lv_at hl 0 rfl) ?_
  refine lv_iconstN hx hb 1 dL_law_1742 (by decide) ?_
  refine lv_iaddN hx hb dL_law_1743 ?_
  refine lw_sld hx hb hXs hbl hbb hS (show ii + 1 < Ln by omega) hLn dL_law_1744 ?_
  rw [hq1]
  refine lv_aload_n hx hb dL_law_1745 rfl (lv_at hl 1 rfl) ?_
  refine lv_iload hx hb dL_law_1746 (lv_at hl 0 rfl) ?_
  refine lv_iconstN hx hb 2 dL_law_1748 (by decide) ?_
  refine lv_iaddN hx hb dL_law_1749 ?_
  refine lw_sld hx hb hXs hbl hbb hS (show ii + 2 < Ln by omega) hLn dL_law_1750 ?_
  rw [hq2]
  refine lv_aload_n hx hb dL_law_1751 rfl (lv_at hl 4 rfl) ?_
  have hMt := mL_wouldFame_g l hX hO hoL hob h n hh hn
  rw [hx0] at hMt
  refine lw_S (As := [.ref x, .int (nI h), .int (nI n), .ref out]) (rest := []) hx hb hml hown hC hNc hS hAb hMt (fun q h => h.elim (hLb q) (fun h => h.elim (fun h => by rw [h]; exact hob) (hz0 q))) kW_L_176 ⟨rfl, rfl⟩ ⟨Nat.le_of_ble_eq_true rfl, Nat.le_of_ble_eq_true rfl⟩ rfl hl (Nat.le_of_ble_eq_true rfl) ⟨show cells + 0 ≤ 609960 by omega, show slots + 0 ≤ 7266223 by omega⟩ dL_law_1752 (fun H locs hB hS1 hz hkk => ?_)
  have hT := lt_x hX hM hx0 hm0 hdj hoL hoM hO hob hB hkk hS1
  obtain ⟨ly, L, ad, ly', L', ad', hX, hM, hx0, hm0, hdj, hoL, hoM, hO, hob, hS⟩ := hT
  have hLb := hX.2.2.1
  have hLbM := hM.2.2.1
  have hz0 : ∀ q, H.size ≤ q → bA E q := fun q z => by show E.2 0 ≤ q; rw [hE0]; exact Nat.le_trans hS.1 z
  refine lv_istore (lv' := [(5, .int (nI 0)), (4, .int (nI ii)), (0, .ref bb), (1, .ref x), (2, .ref mm), (3, .ref out)]) hx hb dL_law_1755 hl (by decide) rfl (fun ls hl => ?_)
  refine lv_aload_n hx hb dL_law_1757 rfl (lv_at hl 4 rfl) ?_
  refine lv_aload_n hx hb dL_law_1758 rfl (lv_at hl 2 rfl) ?_
  refine lv_iload hx hb dL_law_1759 (lv_at hl 1 rfl) ?_
  refine lv_iconstN hx hb 1 dL_law_1761 (by decide) ?_
  refine lv_iaddN hx hb dL_law_1762 ?_
  refine lw_sld hx hb hXs hbl hbb hS (show ii + 1 < Ln by omega) hLn dL_law_1763 ?_
  rw [hq1]
  refine lv_aload_n hx hb dL_law_1764 rfl (lv_at hl 2 rfl) ?_
  refine lv_iload hx hb dL_law_1765 (lv_at hl 1 rfl) ?_
  refine lv_iconstN hx hb 2 dL_law_1767 (by decide) ?_
  refine lv_iaddN hx hb dL_law_1768 ?_
  refine lw_sld hx hb hXs hbl hbb hS (show ii + 2 < Ln by omega) hLn dL_law_1769 ?_
  rw [hq2]
  have hMt := mX7_wouldFame_g l hM h n hh hn
  rw [hm0] at hMt
  refine mu_V (As := [.int (nI h), .int (nI n)]) (h0 := mm) (rest := []) (v := wbfS c h n) hx hb hml hown hC hS hAb hMt (fun q h => h.elim (hLbM q) (hz0 q)) kV_L_178 ⟨rfl, rfl⟩ ⟨Nat.le_of_ble_eq_true rfl, Nat.le_of_ble_eq_true rfl⟩ (by rw [← hm0]; exact hM.1.recv hC cM_0 rfl) rfl hl (Nat.le_of_ble_eq_true rfl) ⟨show cells + 1 ≤ 609960 by omega, show slots + 4 ≤ 7266223 by omega⟩ dL_law_1770 (fun H locs hB hS1 hz hkk => ?_)
  have hT := lt_m hX hM hx0 hm0 hdj hoL hoM hO hob ⟨L', ly', ad', hB, hm0, fun q h => Or.inl h⟩ hkk hS1
  obtain ⟨ly, L, ad, ly', L', ad', hX, hM, hx0, hm0, hdj, hoL, hoM, hO, hob, hS⟩ := hT
  have hLb := hX.2.2.1
  have hLbM := hM.2.2.1
  have hz0 : ∀ q, H.size ≤ q → bA E q := fun q z => by show E.2 0 ≤ q; rw [hE0]; exact Nat.le_trans hS.1 z
  refine lv_istore (lv' := [(6, .int (wbfS c h n)), (5, .int (nI 0)), (4, .int (nI ii)), (0, .ref bb), (1, .ref x), (2, .ref mm), (3, .ref out)]) hx hb dL_law_1773 hl (by decide) rfl (fun ls hl => ?_)
  refine lv_aload_n hx hb dL_law_1775 rfl (lv_at hl 5 rfl) ?_
  have hMt := mX7_thrown l hM
  rw [hm0] at hMt
  refine ro_V (As := []) (h0 := mm) (rest := []) (v := nI 0) hx hb hml hown hC hS hAb hMt kV_L_98 ⟨rfl, rfl⟩ ⟨Nat.le_of_ble_eq_true rfl, Nat.le_of_ble_eq_true rfl⟩ (by rw [← hm0]; exact hM.1.recv hC cM_0 rfl) rfl hl (Nat.le_of_ble_eq_true rfl) ⟨show cells + 1 + 0 ≤ 609960 by omega, show slots + 4 + 0 ≤ 7266223 by omega⟩ dL_law_1776 ?_
  refine lv_iload hx hb dL_law_1779 (lv_at hl 1 rfl) ?_
  refine lv_icmp_eq (tgt := 1786) hx hb dL_law_1781 (by decide) (fun _ => ?_) (fun c9 => absurd rfl c9)
  refine lv_iload hx hb dL_law_1786 (lv_at hl 1 rfl) ?_
  have hT : LT E s.heap x mm out _ _ _ _ H locs := ⟨ly, L, ad, ly', L', ad', hX, hM, hx0, hm0, hdj, hoL, hoM, hO, hob, hS⟩
  refine lv_if_ne (tgt := 1803) hx hb dL_law_1788 (by decide) (fun c9 => absurd (by decide) c9) (fun _ => ?_)
  refine lv_aload_n hx hb dL_law_1791 rfl (lv_at hl 6 rfl) ?_
  refine lv_iconstN hx hb 0 dL_law_1792 (by decide) ?_
  refine lw_lald hx hb hC hO dL_law_1793 ?_
  refine lv_iload hx hb dL_law_1794 (lv_at hl 0 rfl) ?_
  refine lv_i2l (v := (wbfS c h n).toInt64) hx hb dL_law_1796 rfl ?_
  refine W.lcmp hx hb dL_law_1797 ?_
  rw [lg_self]
  refine lv_if_eq (tgt := 1803) hx hb dL_law_1798 (by decide) (fun _ => ?_) (fun c9 => absurd rfl c9)
  refine lv_goto (tgt := 1820) hx hb dL_law_1803 (by decide) ?_
  refine W.widen (k := cells + 1100) (n := slots + 14000) (by omega) (by omega) ?_
  exact kk _ _ _ _ _ _ hT (lv_sub hl [2, 3, 4, 5, 6] rfl)
set_option maxHeartbeats 4000000 in
set_option maxRecDepth 100000 in
theorem lc_wouldFame_b1 (C0 : LC p l s m co E bb Ln xs) {c : Cy} {th : Int32} {v0 : Int64} {H : Heap} {locs : List Loc} {x mm out : Nat} (hT : LT E s.heap x mm out c c th v0 H locs) {ii : Nat} (hii : ii + 7 ≤ Ln) {cells slots : Nat} (hcs : cells + 1100 ≤ 609960 ∧ slots + 14000 ≤ 7266223) {ls : Array Slot} (hl : lv_has ls 9 [(4, .int (nI ii)), (0, .ref bb), (1, .ref x), (2, .ref mm), (3, .ref out)]) (kk : KK p l e s m below meth co bb E Q x mm out ii cells slots) (v n : Int32) (hq1 : xs (ii + 1) = v) (hq2 : xs (ii + 2) = n) (hv : isInS v (nI 0) (nI (c.R 10 1) - nI 1) = false) : W p l e room_1 s m #[Value.ref bb] below meth co H locs cells slots Q (F0 m 1738 ls []) := by
  obtain ⟨hx, hb, hml, hown, hC, hNc, hXs, hbl, hE0, hst, hLn⟩ := C0
  have hAb : ∀ q, bA E q → bA E q := fun _ h => h
  have hbb : ¬ bA E bb := by show ¬ E.2 0 ≤ bb; rw [hE0]; exact Nat.not_le.mpr hbl
  obtain ⟨ly, L, ad, ly', L', ad', hX, hM, hx0, hm0, hdj, hoL, hoM, hO, hob, hS⟩ := hT
  have hLb := hX.2.2.1
  have hLbM := hM.2.2.1
  have hz0 : ∀ q, H.size ≤ q → bA E q := fun q z => by show E.2 0 ≤ q; rw [hE0]; exact Nat.le_trans hS.1 z
  refine lv_aload_n hx hb dL_law_1738 rfl (lv_at hl 2 rfl) ?_
  refine lv_aload_n hx hb dL_law_1739 rfl (lv_at hl 1 rfl) ?_
  refine lv_iload hx hb dL_law_1740 (lv_at hl 0 rfl) ?_
  refine lv_iconstN hx hb 1 dL_law_1742 (by decide) ?_
  refine lv_iaddN hx hb dL_law_1743 ?_
  refine lw_sld hx hb hXs hbl hbb hS (show ii + 1 < Ln by omega) hLn dL_law_1744 ?_
  rw [hq1]
  refine lv_aload_n hx hb dL_law_1745 rfl (lv_at hl 1 rfl) ?_
  refine lv_iload hx hb dL_law_1746 (lv_at hl 0 rfl) ?_
  refine lv_iconstN hx hb 2 dL_law_1748 (by decide) ?_
  refine lv_iaddN hx hb dL_law_1749 ?_
  refine lw_sld hx hb hXs hbl hbb hS (show ii + 2 < Ln by omega) hLn dL_law_1750 ?_
  rw [hq2]
  refine lv_aload_n hx hb dL_law_1751 rfl (lv_at hl 4 rfl) ?_
  have hMt := mL_wouldFame_b1 l hst hX hO hoL hob v n hv
  rw [hx0] at hMt
  refine lw_S (As := [.ref x, .int v, .int n, .ref out]) (rest := []) hx hb hml hown hC hNc hS hAb hMt (fun q h => h.elim (hLb q) (fun h => h.elim (fun h => by rw [h]; exact hob) (hz0 q))) kW_L_176 ⟨rfl, rfl⟩ ⟨Nat.le_of_ble_eq_true rfl, Nat.le_of_ble_eq_true rfl⟩ rfl hl (Nat.le_of_ble_eq_true rfl) ⟨show cells + 1 ≤ 609960 by omega, show slots + 6 ≤ 7266223 by omega⟩ dL_law_1752 (fun H locs hB hS1 hz hkk => ?_)
  have hT := lt_x hX hM hx0 hm0 hdj hoL hoM hO hob hB hkk hS1
  obtain ⟨ly, L, ad, ly', L', ad', hX, hM, hx0, hm0, hdj, hoL, hoM, hO, hob, hS⟩ := hT
  have hLb := hX.2.2.1
  have hLbM := hM.2.2.1
  have hz0 : ∀ q, H.size ≤ q → bA E q := fun q z => by show E.2 0 ≤ q; rw [hE0]; exact Nat.le_trans hS.1 z
  refine lv_istore (lv' := [(5, .int (nI 1)), (4, .int (nI ii)), (0, .ref bb), (1, .ref x), (2, .ref mm), (3, .ref out)]) hx hb dL_law_1755 hl (by decide) rfl (fun ls hl => ?_)
  refine lv_aload_n hx hb dL_law_1757 rfl (lv_at hl 4 rfl) ?_
  refine lv_aload_n hx hb dL_law_1758 rfl (lv_at hl 2 rfl) ?_
  refine lv_iload hx hb dL_law_1759 (lv_at hl 1 rfl) ?_
  refine lv_iconstN hx hb 1 dL_law_1761 (by decide) ?_
  refine lv_iaddN hx hb dL_law_1762 ?_
  refine lw_sld hx hb hXs hbl hbb hS (show ii + 1 < Ln by omega) hLn dL_law_1763 ?_
  rw [hq1]
  refine lv_aload_n hx hb dL_law_1764 rfl (lv_at hl 2 rfl) ?_
  refine lv_iload hx hb dL_law_1765 (lv_at hl 1 rfl) ?_
  refine lv_iconstN hx hb 2 dL_law_1767 (by decide) ?_
  refine lv_iaddN hx hb dL_law_1768 ?_
  refine lw_sld hx hb hXs hbl hbb hS (show ii + 2 < Ln by omega) hLn dL_law_1769 ?_
  rw [hq2]
  have hMt := mX7_wouldFame_b1 l hM v n hv
  rw [hm0] at hMt
  refine mu_V (As := [.int v, .int n]) (h0 := mm) (rest := []) (v := nI 0) hx hb hml hown hC hS hAb hMt (fun q h => h.elim (hLbM q) (hz0 q)) kV_L_178 ⟨rfl, rfl⟩ ⟨Nat.le_of_ble_eq_true rfl, Nat.le_of_ble_eq_true rfl⟩ (by rw [← hm0]; exact hM.1.recv hC cM_0 rfl) rfl hl (Nat.le_of_ble_eq_true rfl) ⟨show cells + 1 + 0 ≤ 609960 by omega, show slots + 6 + 0 ≤ 7266223 by omega⟩ dL_law_1770 (fun H locs hB hS1 hz hkk => ?_)
  have hT := lt_m hX hM hx0 hm0 hdj hoL hoM hO hob ⟨L', ly', ad', hB, hm0, fun q h => Or.inl h⟩ hkk hS1
  obtain ⟨ly, L, ad, ly', L', ad', hX, hM, hx0, hm0, hdj, hoL, hoM, hO, hob, hS⟩ := hT
  have hLb := hX.2.2.1
  have hLbM := hM.2.2.1
  have hz0 : ∀ q, H.size ≤ q → bA E q := fun q z => by show E.2 0 ≤ q; rw [hE0]; exact Nat.le_trans hS.1 z
  refine lv_istore (lv' := [(6, .int (nI 0)), (5, .int (nI 1)), (4, .int (nI ii)), (0, .ref bb), (1, .ref x), (2, .ref mm), (3, .ref out)]) hx hb dL_law_1773 hl (by decide) rfl (fun ls hl => ?_)
  refine lv_aload_n hx hb dL_law_1775 rfl (lv_at hl 5 rfl) ?_
  have hMt := mX7_thrown l hM
  rw [hm0] at hMt
  refine ro_V (As := []) (h0 := mm) (rest := []) (v := nI 1) hx hb hml hown hC hS hAb hMt kV_L_98 ⟨rfl, rfl⟩ ⟨Nat.le_of_ble_eq_true rfl, Nat.le_of_ble_eq_true rfl⟩ (by rw [← hm0]; exact hM.1.recv hC cM_0 rfl) rfl hl (Nat.le_of_ble_eq_true rfl) ⟨show cells + 1 + 0 ≤ 609960 by omega, show slots + 6 + 0 ≤ 7266223 by omega⟩ dL_law_1776 ?_
  refine lv_iload hx hb dL_law_1779 (lv_at hl 1 rfl) ?_
  refine lv_icmp_eq (tgt := 1786) hx hb dL_law_1781 (by decide) (fun _ => ?_) (fun c9 => absurd rfl c9)
  refine lv_iload hx hb dL_law_1786 (lv_at hl 1 rfl) ?_
  have hT : LT E s.heap x mm out _ _ _ _ H locs := ⟨ly, L, ad, ly', L', ad', hX, hM, hx0, hm0, hdj, hoL, hoM, hO, hob, hS⟩
  refine lv_if_ne (tgt := 1803) hx hb dL_law_1788 (by decide) (fun _ => ?_) (fun c9 => absurd c9 (by decide))
  refine lv_goto (tgt := 1820) hx hb dL_law_1803 (by decide) ?_
  refine W.widen (k := cells + 1100) (n := slots + 14000) (by omega) (by omega) ?_
  exact kk _ _ _ _ _ _ hT (lv_sub hl [2, 3, 4, 5, 6] rfl)
set_option maxHeartbeats 4000000 in
set_option maxRecDepth 100000 in
theorem lc_wouldFame_b2 (C0 : LC p l s m co E bb Ln xs) {c : Cy} {th : Int32} {v0 : Int64} {H : Heap} {locs : List Loc} {x mm out : Nat} (hT : LT E s.heap x mm out c c th v0 H locs) {ii : Nat} (hii : ii + 7 ≤ Ln) {cells slots : Nat} (hcs : cells + 1100 ≤ 609960 ∧ slots + 14000 ≤ 7266223) {ls : Array Slot} (hl : lv_has ls 9 [(4, .int (nI ii)), (0, .ref bb), (1, .ref x), (2, .ref mm), (3, .ref out)]) (kk : KK p l e s m below meth co bb E Q x mm out ii cells slots) (h : Nat) (n : Int32) (hq1 : xs (ii + 1) = nI h) (hq2 : xs (ii + 2) = n) (hh : h < c.R 10 1) (hn : isInS n (nI 0) (nI 30) = false) : W p l e room_1 s m #[Value.ref bb] below meth co H locs cells slots Q (F0 m 1738 ls []) := by
  obtain ⟨hx, hb, hml, hown, hC, hNc, hXs, hbl, hE0, hst, hLn⟩ := C0
  have hAb : ∀ q, bA E q → bA E q := fun _ h => h
  have hbb : ¬ bA E bb := by show ¬ E.2 0 ≤ bb; rw [hE0]; exact Nat.not_le.mpr hbl
  obtain ⟨ly, L, ad, ly', L', ad', hX, hM, hx0, hm0, hdj, hoL, hoM, hO, hob, hS⟩ := hT
  have hLb := hX.2.2.1
  have hLbM := hM.2.2.1
  have hz0 : ∀ q, H.size ≤ q → bA E q := fun q z => by show E.2 0 ≤ q; rw [hE0]; exact Nat.le_trans hS.1 z
  refine lv_aload_n hx hb dL_law_1738 rfl (lv_at hl 2 rfl) ?_
  refine lv_aload_n hx hb dL_law_1739 rfl (lv_at hl 1 rfl) ?_
  refine lv_iload hx hb dL_law_1740 (lv_at hl 0 rfl) ?_
  refine lv_iconstN hx hb 1 dL_law_1742 (by decide) ?_
  refine lv_iaddN hx hb dL_law_1743 ?_
  refine lw_sld hx hb hXs hbl hbb hS (show ii + 1 < Ln by omega) hLn dL_law_1744 ?_
  rw [hq1]
  refine lv_aload_n hx hb dL_law_1745 rfl (lv_at hl 1 rfl) ?_
  refine lv_iload hx hb dL_law_1746 (lv_at hl 0 rfl) ?_
  refine lv_iconstN hx hb 2 dL_law_1748 (by decide) ?_
  refine lv_iaddN hx hb dL_law_1749 ?_
  refine lw_sld hx hb hXs hbl hbb hS (show ii + 2 < Ln by omega) hLn dL_law_1750 ?_
  rw [hq2]
  refine lv_aload_n hx hb dL_law_1751 rfl (lv_at hl 4 rfl) ?_
  have hMt := mL_wouldFame_b2 l hst hX hO hoL hob h n hh hn
  rw [hx0] at hMt
  refine lw_S (As := [.ref x, .int (nI h), .int n, .ref out]) (rest := []) hx hb hml hown hC hNc hS hAb hMt (fun q h => h.elim (hLb q) (fun h => h.elim (fun h => by rw [h]; exact hob) (hz0 q))) kW_L_176 ⟨rfl, rfl⟩ ⟨Nat.le_of_ble_eq_true rfl, Nat.le_of_ble_eq_true rfl⟩ rfl hl (Nat.le_of_ble_eq_true rfl) ⟨show cells + 1 ≤ 609960 by omega, show slots + 6 ≤ 7266223 by omega⟩ dL_law_1752 (fun H locs hB hS1 hz hkk => ?_)
  have hT := lt_x hX hM hx0 hm0 hdj hoL hoM hO hob hB hkk hS1
  obtain ⟨ly, L, ad, ly', L', ad', hX, hM, hx0, hm0, hdj, hoL, hoM, hO, hob, hS⟩ := hT
  have hLb := hX.2.2.1
  have hLbM := hM.2.2.1
  have hz0 : ∀ q, H.size ≤ q → bA E q := fun q z => by show E.2 0 ≤ q; rw [hE0]; exact Nat.le_trans hS.1 z
  refine lv_istore (lv' := [(5, .int (nI 2)), (4, .int (nI ii)), (0, .ref bb), (1, .ref x), (2, .ref mm), (3, .ref out)]) hx hb dL_law_1755 hl (by decide) rfl (fun ls hl => ?_)
  refine lv_aload_n hx hb dL_law_1757 rfl (lv_at hl 4 rfl) ?_
  refine lv_aload_n hx hb dL_law_1758 rfl (lv_at hl 2 rfl) ?_
  refine lv_iload hx hb dL_law_1759 (lv_at hl 1 rfl) ?_
  refine lv_iconstN hx hb 1 dL_law_1761 (by decide) ?_
  refine lv_iaddN hx hb dL_law_1762 ?_
  refine lw_sld hx hb hXs hbl hbb hS (show ii + 1 < Ln by omega) hLn dL_law_1763 ?_
  rw [hq1]
  refine lv_aload_n hx hb dL_law_1764 rfl (lv_at hl 2 rfl) ?_
  refine lv_iload hx hb dL_law_1765 (lv_at hl 1 rfl) ?_
  refine lv_iconstN hx hb 2 dL_law_1767 (by decide) ?_
  refine lv_iaddN hx hb dL_law_1768 ?_
  refine lw_sld hx hb hXs hbl hbb hS (show ii + 2 < Ln by omega) hLn dL_law_1769 ?_
  rw [hq2]
  have hMt := mX7_wouldFame_b2 l hM h n hh hn
  rw [hm0] at hMt
  refine mu_V (As := [.int (nI h), .int n]) (h0 := mm) (rest := []) (v := nI 0) hx hb hml hown hC hS hAb hMt (fun q h => h.elim (hLbM q) (hz0 q)) kV_L_178 ⟨rfl, rfl⟩ ⟨Nat.le_of_ble_eq_true rfl, Nat.le_of_ble_eq_true rfl⟩ (by rw [← hm0]; exact hM.1.recv hC cM_0 rfl) rfl hl (Nat.le_of_ble_eq_true rfl) ⟨show cells + 1 + 0 ≤ 609960 by omega, show slots + 6 + 0 ≤ 7266223 by omega⟩ dL_law_1770 (fun H locs hB hS1 hz hkk => ?_)
  have hT := lt_m hX hM hx0 hm0 hdj hoL hoM hO hob ⟨L', ly', ad', hB, hm0, fun q h => Or.inl h⟩ hkk hS1
  obtain ⟨ly, L, ad, ly', L', ad', hX, hM, hx0, hm0, hdj, hoL, hoM, hO, hob, hS⟩ := hT
  have hLb := hX.2.2.1
  have hLbM := hM.2.2.1
  have hz0 : ∀ q, H.size ≤ q → bA E q := fun q z => by show E.2 0 ≤ q; rw [hE0]; exact Nat.le_trans hS.1 z
  refine lv_istore (lv' := [(6, .int (nI 0)), (5, .int (nI 2)), (4, .int (nI ii)), (0, .ref bb), (1, .ref x), (2, .ref mm), (3, .ref out)]) hx hb dL_law_1773 hl (by decide) rfl (fun ls hl => ?_)
  refine lv_aload_n hx hb dL_law_1775 rfl (lv_at hl 5 rfl) ?_
  have hMt := mX7_thrown l hM
  rw [hm0] at hMt
  refine ro_V (As := []) (h0 := mm) (rest := []) (v := nI 2) hx hb hml hown hC hS hAb hMt kV_L_98 ⟨rfl, rfl⟩ ⟨Nat.le_of_ble_eq_true rfl, Nat.le_of_ble_eq_true rfl⟩ (by rw [← hm0]; exact hM.1.recv hC cM_0 rfl) rfl hl (Nat.le_of_ble_eq_true rfl) ⟨show cells + 1 + 0 ≤ 609960 by omega, show slots + 6 + 0 ≤ 7266223 by omega⟩ dL_law_1776 ?_
  refine lv_iload hx hb dL_law_1779 (lv_at hl 1 rfl) ?_
  refine lv_icmp_eq (tgt := 1786) hx hb dL_law_1781 (by decide) (fun _ => ?_) (fun c9 => absurd rfl c9)
  refine lv_iload hx hb dL_law_1786 (lv_at hl 1 rfl) ?_
  have hT : LT E s.heap x mm out _ _ _ _ H locs := ⟨ly, L, ad, ly', L', ad', hX, hM, hx0, hm0, hdj, hoL, hoM, hO, hob, hS⟩
  refine lv_if_ne (tgt := 1803) hx hb dL_law_1788 (by decide) (fun _ => ?_) (fun c9 => absurd c9 (by decide))
  refine lv_goto (tgt := 1820) hx hb dL_law_1803 (by decide) ?_
  refine W.widen (k := cells + 1100) (n := slots + 14000) (by omega) (by omega) ?_
  exact kk _ _ _ _ _ _ hT (lv_sub hl [2, 3, 4, 5, 6] rfl)
end CAS
