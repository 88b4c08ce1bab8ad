/-! the law's loop, and its end -/
theorem lg_self (x : Int64) : lg_cmp x x = 0 := by
  unfold lg_cmp
  simp
section CAS
variable {p : Program} {l : Launch} {e : Env} {s : State} {m : MethodId} {below : List Frame} {meth : Method} {co : Code} {bb Ln : Nat} {xs : Nat → Int32} {E : En} {Q : State → Prop}
set_option maxHeartbeats 4000000 in
set_option maxRecDepth 100000 in
theorem law_step (C : LC p l s m co E bb Ln xs) {x aw af hs : Nat} {g F : Nat → Int32} {cy : Cy} {H : Heap} {locs : List Loc} (hW : CW E x cy [aw, af] H) (hI_aw : iA E aw 3 g H) (hI_af : iA E af hs F H) (hne_aw_af : aw ≠ af) (hA_aw : bA E aw) (hA_af : bA E af) {k : Nat} (G : GI cy g hs F k) (hs3 : 3 ≤ hs) (hk : k < 58) (hS : va_S (bA E) s.heap H locs) {cells slots : Nat} (hcs : cells ≤ 1000 ∧ slots ≤ 100000) (kk : ∀ (H1 : Heap) (locs1 : List Loc) (c2 : Cy) (F2 : Nat → Int32) (ls1 : Array Slot), CW E x c2 [aw, af] H1 → iA E aw 3 g H1 → iA E af hs F2 H1 → GI c2 g hs F2 (k + 1) → va_S (bA E) s.heap H1 locs1 → lv_has ls1 22 [(0, .ref bb), (1, .ref x), (2, .ref aw), (3, .int (nI hs)), (4, .ref af), (5, .int (nI k))] → W p l e room_1 s m #[Value.ref bb] below meth co H1 locs1 (cells + 2) (slots + 211) Q (F0 m 882 ls1 [])) {ls : Array Slot} (hl : lv_has ls 22 [(0, .ref bb), (1, .ref x), (2, .ref aw), (3, .int (nI hs)), (4, .ref af), (5, .int (nI k))]) : W p l e room_1 s m #[Value.ref bb] below meth co H locs cells slots Q (F0 m 207 ls []) := by
  obtain ⟨hx, hb, hml, hown, hC, hXs, hbl, hE0, hst, hLn⟩ := C
  have hAb : ∀ q, bA E q → bA E q := fun _ h => h
  have hbA : ¬ bA E bb := fun z => absurd hbl (Nat.not_lt.mpr (by rw [← hE0]; exact z))
  have wf := hW.wf
  have hw3 := G.nw
  have hw1 := G.nw1
  have hwh := G.nh
  have hwh1 := G.nh1
  have hwl := G.nl
  have hwl6 := wf.nl
  have hwh8 := wf.nh
  have hnt := wf.nt
  have hti := G.ti
  have hne_af_aw : af ≠ aw := Ne.symm hne_aw_af
  refine lv_aload_n hx hb dL_law_207 rfl (lv_at hl 0 rfl) ?_
  refine lv_iload hx hb dL_law_208 (lv_at hl 5 rfl) ?_
  refine lv_bipushN hx hb 16 dL_law_210 (by decide) ?_
  refine lv_iremN hx hb dL_law_212 (by omega) (by omega) (by omega) ?_
  refine lx_S (As := [.ref bb, .int (nI (k % 16))]) (rest := []) (v := clS Ln xs (k % 16)) hx hb hml hown hC hS hAb hXs hbl hbA (fun _ => mL_cell l bb Ln xs (k % 16) (by omega) (by omega)) kS_L_12 ⟨rfl, rfl⟩ ⟨Nat.le_of_ble_eq_true rfl, Nat.le_of_ble_eq_true rfl⟩ rfl hl (Nat.le_of_ble_eq_true rfl) ⟨show cells ≤ (600074 : Nat) by omega, show slots ≤ (7301550 : Nat) by omega⟩ dL_law_213 ?_
  refine lv_bipushN hx hb 31 dL_law_216 (by decide) ?_
  refine lv_iload hx hb dL_law_218 (lv_at hl 5 rfl) ?_
  refine lv_imulN hx hb dL_law_220 ?_
  refine lv_iadd hx hb dL_law_221 ?_
  refine lv_istore (lv' := [(6, .int ((clS Ln xs (k % 16)) + (nI (31 * k)))), (0, .ref bb), (1, .ref x), (2, .ref aw), (3, .int (nI hs)), (4, .ref af), (5, .int (nI k))]) hx hb dL_law_222 hl (by decide) rfl (fun ls hl => ?_)
  refine lv_aload_n hx hb dL_law_224 rfl (lv_at hl 1 rfl) ?_
  refine lv_bipushN hx hb 7 dL_law_225 (by decide) ?_
  refine lv_iload hx hb dL_law_227 (lv_at hl 6 rfl) ?_
  refine lv_imulN hx hb dL_law_229 ?_
  refine lv_iconstN hx hb 3 dL_law_230 (by decide) ?_
  refine lv_iaddN hx hb dL_law_231 ?_
  refine lv_bipushN hx hb 16 dL_law_232 (by decide) ?_
  refine lv_iremN hx hb dL_law_234 (by omega) (by omega) (by omega) ?_
  refine lx_S (As := [.ref bb, .int (nI (((7 * k) + 3) % 16))]) (rest := []) (v := clS Ln xs (((7 * k) + 3) % 16)) hx hb hml hown hC hS hAb hXs hbl hbA (fun _ => mL_cell l bb Ln xs (((7 * k) + 3) % 16) (by omega) (by omega)) kS_L_12 ⟨rfl, rfl⟩ ⟨Nat.le_of_ble_eq_true rfl, Nat.le_of_ble_eq_true rfl⟩ rfl hl (Nat.le_of_ble_eq_true rfl) ⟨show cells ≤ (600074 : Nat) by omega, show slots ≤ (7301550 : Nat) by omega⟩ dL_law_235 ?_
  refine lv_iconstN hx hb 5 dL_law_238 (by decide) ?_
  refine lv_iload hx hb dL_law_239 (lv_at hl 6 rfl) ?_
  refine lv_imulN hx hb dL_law_241 ?_
  refine lv_iadd hx hb dL_law_242 ?_
  refine lv_istore (lv' := [(7, .int ((clS Ln xs (((7 * k) + 3) % 16)) + (nI (5 * k)))), (6, .int ((clS Ln xs (k % 16)) + (nI (31 * k)))), (0, .ref bb), (1, .ref x), (2, .ref aw), (3, .int (nI hs)), (4, .ref af), (5, .int (nI k))]) hx hb dL_law_243 hl (by decide) rfl (fun ls hl => ?_)
  refine lv_iload hx hb dL_law_245 (lv_at hl 0 rfl) ?_
  refine lv_iload_n hx hb dL_law_247 rfl (lv_at hl 5 rfl) ?_
  refine ro_S (As := [.int ((clS Ln xs (((7 * k) + 3) % 16)) + (nI (5 * k))), .int (nI hs)]) (rest := []) (v := nI (blN ((clS Ln xs (((7 * k) + 3) % 16)) + (nI (5 * k))) hs)) hx hb hml hown hC hS hAb (mL_below l ((clS Ln xs (((7 * k) + 3) % 16)) + (nI (5 * k))) hs (by first | assumption | omega) (by omega)) kS_L_18 ⟨rfl, rfl⟩ ⟨Nat.le_of_ble_eq_true rfl, Nat.le_of_ble_eq_true rfl⟩ rfl hl (Nat.le_of_ble_eq_true rfl) ⟨show cells ≤ (600074 : Nat) by omega, show slots ≤ (7301550 : Nat) by omega⟩ dL_law_248 ?_
  have hb_1 : blN ((clS Ln xs (((7 * k) + 3) % 16)) + (nI (5 * k))) hs < hs := blN_lt (by first | assumption | omega)
  refine lv_istore (lv' := [(8, .int (nI (blN ((clS Ln xs (((7 * k) + 3) % 16)) + (nI (5 * k))) hs))), (7, .int ((clS Ln xs (((7 * k) + 3) % 16)) + (nI (5 * k)))), (6, .int ((clS Ln xs (k % 16)) + (nI (31 * k)))), (0, .ref bb), (1, .ref x), (2, .ref aw), (3, .int (nI hs)), (4, .ref af), (5, .int (nI k))]) hx hb dL_law_251 hl (by decide) rfl (fun ls hl => ?_)
  refine lv_iload hx hb dL_law_253 (lv_at hl 1 rfl) ?_
  refine lv_iconstN hx hb 2 dL_law_255 (by decide) ?_
  refine lv_ishr hx hb dL_law_256 ?_
  refine lv_iconstN hx hb 3 dL_law_257 (by decide) ?_
  refine ro_S (As := [.int (((clS Ln xs (((7 * k) + 3) % 16)) + (nI (5 * k))) >>> (nI 2 &&& 31)), .int (nI 3)]) (rest := []) (v := nI (blN (((clS Ln xs (((7 * k) + 3) % 16)) + (nI (5 * k))) >>> (nI 2 &&& 31)) 3)) hx hb hml hown hC hS hAb (mL_below l (((clS Ln xs (((7 * k) + 3) % 16)) + (nI (5 * k))) >>> (nI 2 &&& 31)) 3 (by first | assumption | omega) (by omega)) kS_L_18 ⟨rfl, rfl⟩ ⟨Nat.le_of_ble_eq_true rfl, Nat.le_of_ble_eq_true rfl⟩ rfl hl (Nat.le_of_ble_eq_true rfl) ⟨show cells ≤ (600074 : Nat) by omega, show slots ≤ (7301550 : Nat) by omega⟩ dL_law_258 ?_
  have hb_2 : blN (((clS Ln xs (((7 * k) + 3) % 16)) + (nI (5 * k))) >>> (nI 2 &&& 31)) 3 < 3 := blN_lt (by first | assumption | omega)
  refine lv_istore (lv' := [(9, .int (nI (blN (((clS Ln xs (((7 * k) + 3) % 16)) + (nI (5 * k))) >>> (nI 2 &&& 31)) 3))), (8, .int (nI (blN ((clS Ln xs (((7 * k) + 3) % 16)) + (nI (5 * k))) hs))), (7, .int ((clS Ln xs (((7 * k) + 3) % 16)) + (nI (5 * k)))), (6, .int ((clS Ln xs (k % 16)) + (nI (31 * k)))), (0, .ref bb), (1, .ref x), (2, .ref aw), (3, .int (nI hs)), (4, .ref af), (5, .int (nI k))]) hx hb dL_law_261 hl (by decide) rfl (fun ls hl => ?_)
  refine lv_aload_n hx hb dL_law_263 rfl (lv_at hl 5 rfl) ?_
  refine lv_iconstN hx hb 3 dL_law_264 (by decide) ?_
  refine la_V (As := [.int (nI 3)]) (rest := []) (v := nI (cy.R 10 2)) hx hb hml hown hC hS hAb hW (fun ly L ad hX => RoI.cast ma3 (mX3_many_g l hX 3 (show 3 ≤ 11 by first | assumption | omega))) kV_L_29 ⟨rfl, rfl⟩ ⟨Nat.le_of_ble_eq_true rfl, Nat.le_of_ble_eq_true rfl⟩ rfl hl (Nat.le_of_ble_eq_true rfl) ⟨show cells ≤ (600074 : Nat) by omega, show slots ≤ (7301550 : Nat) by omega⟩ dL_law_265 ?_
  refine lv_istore (lv' := [(10, .int (nI (cy.R 10 2))), (9, .int (nI (blN (((clS Ln xs (((7 * k) + 3) % 16)) + (nI (5 * k))) >>> (nI 2 &&& 31)) 3))), (8, .int (nI (blN ((clS Ln xs (((7 * k) + 3) % 16)) + (nI (5 * k))) hs))), (7, .int ((clS Ln xs (((7 * k) + 3) % 16)) + (nI (5 * k)))), (6, .int ((clS Ln xs (k % 16)) + (nI (31 * k)))), (0, .ref bb), (1, .ref x), (2, .ref aw), (3, .int (nI hs)), (4, .ref af), (5, .int (nI k))]) hx hb dL_law_268 hl (by decide) rfl (fun ls hl => ?_)
  refine lv_aload_n hx hb dL_law_270 rfl (lv_at hl 6 rfl) ?_
  refine lv_iconstN hx hb 5 dL_law_271 (by decide) ?_
  refine la_V (As := [.int (nI 5)]) (rest := []) (v := cy.I 0 0) hx hb hml hown hC hS hAb hW (fun ly L ad hX => RoI.cast ma5 (mX3_many_g l hX 5 (show 5 ≤ 11 by first | assumption | omega))) kV_L_29 ⟨rfl, rfl⟩ ⟨Nat.le_of_ble_eq_true rfl, Nat.le_of_ble_eq_true rfl⟩ rfl hl (Nat.le_of_ble_eq_true rfl) ⟨show cells ≤ (600074 : Nat) by omega, show slots ≤ (7301550 : Nat) by omega⟩ dL_law_272 ?_
  refine lv_istore (lv' := [(11, .int (cy.I 0 0)), (10, .int (nI (cy.R 10 2))), (9, .int (nI (blN (((clS Ln xs (((7 * k) + 3) % 16)) + (nI (5 * k))) >>> (nI 2 &&& 31)) 3))), (8, .int (nI (blN ((clS Ln xs (((7 * k) + 3) % 16)) + (nI (5 * k))) hs))), (7, .int ((clS Ln xs (((7 * k) + 3) % 16)) + (nI (5 * k)))), (6, .int ((clS Ln xs (k % 16)) + (nI (31 * k)))), (0, .ref bb), (1, .ref x), (2, .ref aw), (3, .int (nI hs)), (4, .ref af), (5, .int (nI k))]) hx hb dL_law_275 hl (by decide) rfl (fun ls hl => ?_)
  refine lv_iload hx hb dL_law_277 (lv_at hl 5 rfl) ?_
  refine lv_bipushN hx hb 17 dL_law_279 (by decide) ?_
  refine ro_S (As := [.int ((clS Ln xs (k % 16)) + (nI (31 * k))), .int (nI 17)]) (rest := []) (v := nI (blN ((clS Ln xs (k % 16)) + (nI (31 * k))) 17)) hx hb hml hown hC hS hAb (mL_below l ((clS Ln xs (k % 16)) + (nI (31 * k))) 17 (by first | assumption | omega) (by omega)) kS_L_18 ⟨rfl, rfl⟩ ⟨Nat.le_of_ble_eq_true rfl, Nat.le_of_ble_eq_true rfl⟩ rfl hl (Nat.le_of_ble_eq_true rfl) ⟨show cells ≤ (600074 : Nat) by omega, show slots ≤ (7301550 : Nat) by omega⟩ dL_law_281 ?_
  have hb_3 : blN ((clS Ln xs (k % 16)) + (nI (31 * k))) 17 < 17 := blN_lt (by first | assumption | omega)
  by_cases c_284 : nI (blN ((clS Ln xs (k % 16)) + (nI (31 * k))) 17) = nI 0
  · skip
    refine lv_tableIn (tgt := 336) (off := 52) hx hb dL_law_284 (by rw [c_284]; decide) (by rw [c_284]; decide) (by rw [c_284]; decide) (by decide) ?_
    exact lc_permit ⟨hx, hb, hml, hown, hC, hXs, hbl, hE0, hst, hLn⟩ hW hI_aw hI_af hne_aw_af hA_aw hA_af G hs3 hk hS hcs ((clS Ln xs (k % 16)) + (nI (31 * k))) ((clS Ln xs (((7 * k) + 3) % 16)) + (nI (5 * k))) (by assumption) (by assumption) kk (lv_sub hl [6, 7, 8, 9, 10, 11, 5, 4, 3, 2, 1, 0] rfl)
  have c_284n0 := c_284
  clear c_284
  by_cases c_284 : nI (blN ((clS Ln xs (k % 16)) + (nI (31 * k))) 17) = nI 1
  · skip
    refine lv_tableIn (tgt := 396) (off := 112) hx hb dL_law_284 (by rw [c_284]; decide) (by rw [c_284]; decide) (by rw [c_284]; decide) (by decide) ?_
    exact lc_watch ⟨hx, hb, hml, hown, hC, hXs, hbl, hE0, hst, hLn⟩ hW hI_aw hI_af hne_aw_af hA_aw hA_af G hs3 hk hS hcs ((clS Ln xs (k % 16)) + (nI (31 * k))) ((clS Ln xs (((7 * k) + 3) % 16)) + (nI (5 * k))) (by assumption) (by assumption) kk (lv_sub hl [6, 7, 8, 9, 10, 11, 5, 4, 3, 2, 1, 0] rfl)
  have c_284n1 := c_284
  clear c_284
  by_cases c_284 : nI (blN ((clS Ln xs (k % 16)) + (nI (31 * k))) 17) = nI 2
  · skip
    refine lv_tableIn (tgt := 430) (off := 146) hx hb dL_law_284 (by rw [c_284]; decide) (by rw [c_284]; decide) (by rw [c_284]; decide) (by decide) ?_
    exact lc_buffed ⟨hx, hb, hml, hown, hC, hXs, hbl, hE0, hst, hLn⟩ hW hI_aw hI_af hne_aw_af hA_aw hA_af G hs3 hk hS hcs ((clS Ln xs (k % 16)) + (nI (31 * k))) ((clS Ln xs (((7 * k) + 3) % 16)) + (nI (5 * k))) (by assumption) (by assumption) kk (lv_sub hl [6, 7, 8, 9, 10, 11, 5, 4, 3, 2, 1, 0] rfl)
  have c_284n2 := c_284
  clear c_284
  by_cases c_284 : nI (blN ((clS Ln xs (k % 16)) + (nI (31 * k))) 17) = nI 3
  · skip
    refine lv_tableIn (tgt := 445) (off := 161) hx hb dL_law_284 (by rw [c_284]; decide) (by rw [c_284]; decide) (by rw [c_284]; decide) (by decide) ?_
    exact lc_clear ⟨hx, hb, hml, hown, hC, hXs, hbl, hE0, hst, hLn⟩ hW hI_aw hI_af hne_aw_af hA_aw hA_af G hs3 hk hS hcs ((clS Ln xs (k % 16)) + (nI (31 * k))) ((clS Ln xs (((7 * k) + 3) % 16)) + (nI (5 * k))) (by assumption) (by assumption) kk (lv_sub hl [6, 7, 8, 9, 10, 11, 5, 4, 3, 2, 1, 0] rfl)
  have c_284n3 := c_284
  clear c_284
  by_cases c_284 : nI (blN ((clS Ln xs (k % 16)) + (nI (31 * k))) 17) = nI 4
  · skip
    refine lv_tableIn (tgt := 517) (off := 233) hx hb dL_law_284 (by rw [c_284]; decide) (by rw [c_284]; decide) (by rw [c_284]; decide) (by decide) ?_
    exact lc_sell ⟨hx, hb, hml, hown, hC, hXs, hbl, hE0, hst, hLn⟩ hW hI_aw hI_af hne_aw_af hA_aw hA_af G hs3 hk hS hcs ((clS Ln xs (k % 16)) + (nI (31 * k))) ((clS Ln xs (((7 * k) + 3) % 16)) + (nI (5 * k))) (by assumption) (by assumption) kk (lv_sub hl [6, 7, 8, 9, 10, 11, 5, 4, 3, 2, 1, 0] rfl)
  have c_284n4 := c_284
  clear c_284
  by_cases c_284 : nI (blN ((clS Ln xs (k % 16)) + (nI (31 * k))) 17) = nI 5
  · skip
    refine lv_tableIn (tgt := 650) (off := 366) hx hb dL_law_284 (by rw [c_284]; decide) (by rw [c_284]; decide) (by rw [c_284]; decide) (by decide) ?_
    exact lc_remember ⟨hx, hb, hml, hown, hC, hXs, hbl, hE0, hst, hLn⟩ hW hI_aw hI_af hne_aw_af hA_aw hA_af G hs3 hk hS hcs ((clS Ln xs (k % 16)) + (nI (31 * k))) ((clS Ln xs (((7 * k) + 3) % 16)) + (nI (5 * k))) (by assumption) (by assumption) kk (lv_sub hl [6, 7, 8, 9, 10, 11, 5, 4, 3, 2, 1, 0] rfl)
  have c_284n5 := c_284
  clear c_284
  by_cases c_284 : nI (blN ((clS Ln xs (k % 16)) + (nI (31 * k))) 17) = nI 6
  · skip
    refine lv_tableIn (tgt := 692) (off := 408) hx hb dL_law_284 (by rw [c_284]; decide) (by rw [c_284]; decide) (by rw [c_284]; decide) (by decide) ?_
    exact lc_pay ⟨hx, hb, hml, hown, hC, hXs, hbl, hE0, hst, hLn⟩ hW hI_aw hI_af hne_aw_af hA_aw hA_af G hs3 hk hS hcs ((clS Ln xs (k % 16)) + (nI (31 * k))) ((clS Ln xs (((7 * k) + 3) % 16)) + (nI (5 * k))) (by assumption) (by assumption) kk (lv_sub hl [6, 7, 8, 9, 10, 11, 5, 4, 3, 2, 1, 0] rfl)
  have c_284n6 := c_284
  clear c_284
  by_cases c_284 : nI (blN ((clS Ln xs (k % 16)) + (nI (31 * k))) 17) = nI 7
  · skip
    refine lv_tableIn (tgt := 727) (off := 443) hx hb dL_law_284 (by rw [c_284]; decide) (by rw [c_284]; decide) (by rw [c_284]; decide) (by decide) ?_
    exact lc_pass ⟨hx, hb, hml, hown, hC, hXs, hbl, hE0, hst, hLn⟩ hW hI_aw hI_af hne_aw_af hA_aw hA_af G hs3 hk hS hcs ((clS Ln xs (k % 16)) + (nI (31 * k))) ((clS Ln xs (((7 * k) + 3) % 16)) + (nI (5 * k))) (by assumption) (by assumption) kk (lv_sub hl [6, 7, 8, 9, 10, 11, 5, 4, 3, 2, 1, 0] rfl)
  have c_284n7 := c_284
  clear c_284
  by_cases c_284 : nI (blN ((clS Ln xs (k % 16)) + (nI (31 * k))) 17) = nI 8
  · skip
    refine lv_tableIn (tgt := 727) (off := 443) hx hb dL_law_284 (by rw [c_284]; decide) (by rw [c_284]; decide) (by rw [c_284]; decide) (by decide) ?_
    exact lc_pass ⟨hx, hb, hml, hown, hC, hXs, hbl, hE0, hst, hLn⟩ hW hI_aw hI_af hne_aw_af hA_aw hA_af G hs3 hk hS hcs ((clS Ln xs (k % 16)) + (nI (31 * k))) ((clS Ln xs (((7 * k) + 3) % 16)) + (nI (5 * k))) (by assumption) (by assumption) kk (lv_sub hl [6, 7, 8, 9, 10, 11, 5, 4, 3, 2, 1, 0] rfl)
  have c_284n8 := c_284
  clear c_284
  refine lv_tableOut (tgt := 827) hx hb dL_law_284 (sw_out 9 (fun k hk => by match k, hk with | 0, _ => exact c_284n0 | 1, _ => exact c_284n1 | 2, _ => exact c_284n2 | 3, _ => exact c_284n3 | 4, _ => exact c_284n4 | 5, _ => exact c_284n5 | 6, _ => exact c_284n6 | 7, _ => exact c_284n7 | 8, _ => exact c_284n8)) (by decide) ?_
  exact lc_painted ⟨hx, hb, hml, hown, hC, hXs, hbl, hE0, hst, hLn⟩ hW hI_aw hI_af hne_aw_af hA_aw hA_af G hs3 hk hS hcs ((clS Ln xs (k % 16)) + (nI (31 * k))) ((clS Ln xs (((7 * k) + 3) % 16)) + (nI (5 * k))) (by assumption) (by assumption) kk (lv_sub hl [6, 7, 8, 9, 10, 11, 5, 4, 3, 2, 1, 0] rfl)
set_option maxHeartbeats 4000000 in
set_option maxRecDepth 100000 in
theorem law_seen (C : LC p l s m co E bb Ln xs) {x aw af hs : Nat} {g F : Nat → Int32} {cy : Cy} {H : Heap} {locs : List Loc} (hW : CW E x cy [aw, af] H) (hI_aw : iA E aw 3 g H) (hI_af : iA E af hs F H) (hne_aw_af : aw ≠ af) (hA_aw : bA E aw) (hA_af : bA E af) {k t : Nat} (hk : k < 100) (G : GI cy g hs F t) (hs3 : 3 ≤ hs) (hS : va_S (bA E) s.heap H locs) {cells slots : Nat} (hcs : cells ≤ 1000 ∧ slots ≤ 100000) (kk : ∀ (H1 : Heap) (locs1 : List Loc) (ls1 : Array Slot), CW E x cy [aw, af] H1 → iA E aw 3 g H1 → iA E af hs F H1 → va_S (bA E) s.heap H1 locs1 → lv_has ls1 22 [(0, .ref bb), (1, .ref x), (2, .ref aw), (3, .int (nI hs)), (4, .ref af), (5, .int (nI (k + 1)))] → W p l e room_1 s m #[Value.ref bb] below meth co H1 locs1 (cells + 1) (slots + 8) Q (F0 m 200 ls1 [])) {ls : Array Slot} (hl : lv_has ls 22 [(0, .ref bb), (1, .ref x), (2, .ref aw), (3, .int (nI hs)), (4, .ref af), (5, .int (nI k))]) : W p l e room_1 s m #[Value.ref bb] below meth co H locs cells slots Q (F0 m 882 ls []) := by
  obtain ⟨hx, hb, hml, hown, hC, hXs, hbl, hE0, hst, hLn⟩ := C
  have hAb : ∀ q, bA E q → bA E q := fun _ h => h
  have hbA : ¬ bA E bb := fun z => absurd hbl (Nat.not_lt.mpr (by rw [← hE0]; exact z))
  have wf := hW.wf
  have hw3 := G.nw
  have hw1 := G.nw1
  have hwh := G.nh
  have hwh1 := G.nh1
  have hwl := G.nl
  have hwl6 := wf.nl
  have hwh8 := wf.nh
  have hnt := wf.nt
  have hti := G.ti
  have hne_af_aw : af ≠ aw := Ne.symm hne_aw_af
  refine lv_aload_n hx hb dL_law_882 rfl (lv_at hl 1 rfl) ?_
  refine lv_aload_n hx hb dL_law_883 rfl (lv_at hl 2 rfl) ?_
  refine lv_iload_n hx hb dL_law_884 rfl (lv_at hl 3 rfl) ?_
  refine lv_aload hx hb dL_law_885 (lv_at hl 4 rfl) ?_
  refine mu_S (As := [.ref x, .ref aw, .int (nI hs), .ref af]) (rest := []) (v := bI true) hx hb hml hown hC hS hAb (mL_areSeen l hW hI_aw hI_af (by simp) (by simp) G hs3) (fun q h => h.1) kS_L_78 ⟨rfl, rfl⟩ ⟨Nat.le_of_ble_eq_true rfl, Nat.le_of_ble_eq_true rfl⟩ rfl hl (Nat.le_of_ble_eq_true rfl) ⟨show cells + 1 ≤ (600074 : Nat) by omega, show slots + 8 ≤ (7301550 : Nat) by omega⟩ dL_law_887 (fun H locs hB hS hz hk9 => ?_)
  have hW : CW E x cy [aw, af] H := hB
  have hI_aw := hI_aw.kept (hk9 aw hI_aw.lt (fun h => h.2 (by simp)))
  have hI_af := hI_af.kept (hk9 af hI_af.lt (fun h => h.2 (by simp)))
  refine lv_bif_ne (tgt := 895) hx hb dL_law_890 (by decide) (fun c_890 => ?_) (fun c_890 => ?_)
  · skip
    refine lv_iincN (v := 1) (lv' := [(5, .int (nI (k + 1))), (0, .ref bb), (1, .ref x), (2, .ref aw), (3, .int (nI hs)), (4, .ref af)]) hx hb dL_law_895 hl (k := 5) rfl (by decide) (by decide) rfl (fun ls hl => ?_)
    refine lv_goto (tgt := 200) hx hb dL_law_898 (by decide) ?_
    exact kk _ _ _ hW hI_aw hI_af hS (lv_sub hl [1, 2, 3, 4, 5, 0] rfl)
  · skip
    exact absurd c_890 (by decide)
set_option maxHeartbeats 4000000 in
set_option maxRecDepth 100000 in
theorem law_loop (C : LC p l s m co E bb Ln xs) {x aw af hs : Nat} {g : Nat → Int32} (hne_aw_af : aw ≠ af) (hA_aw : bA E aw) (hA_af : bA E af) (hs3 : 3 ≤ hs) (kk : ∀ (H1 : Heap) (locs1 : List Loc) (c2 : Cy) (F2 : Nat → Int32) (ls1 : Array Slot) (cells slots : Nat), CW E x c2 [aw, af] H1 → iA E aw 3 g H1 → GI c2 g hs F2 58 → va_S (bA E) s.heap H1 locs1 → cells ≤ 1000 ∧ slots ≤ 100000 → lv_has ls1 22 [(0, .ref bb), (1, .ref x), (2, .ref aw)] → W p l e room_1 s m #[Value.ref bb] below meth co H1 locs1 cells slots Q (F0 m 901 ls1 [])) :
    ∀ (fu k : Nat) (cy : Cy) (F : Nat → Int32) (H : Heap) (locs : List Loc) (ls : Array Slot) (cells slots : Nat), k ≤ 58 → 58 - k < fu → CW E x cy [aw, af] H → iA E aw 3 g H → iA E af hs F H → GI cy g hs F k → va_S (bA E) s.heap H locs → cells ≤ 100 + 3 * k ∧ slots ≤ 10000 + 219 * k → lv_has ls 22 [(0, .ref bb), (1, .ref x), (2, .ref aw), (3, .int (nI hs)), (4, .ref af), (5, .int (nI k))] → W p l e room_1 s m #[Value.ref bb] below meth co H locs cells slots Q (F0 m 200 ls []) := by
  have C0 := C
  obtain ⟨hx, hb, hml, hown, hC, hXs, hbl, hE0, hst, hLn⟩ := C
  intro fu
  induction fu with
  | zero => intro k cy F H locs ls cells slots hk hfu; exact absurd hfu (Nat.not_lt_zero _)
  | succ fu ih =>
    intro k cy F H locs ls cells slots hk58 hfu hW hI_aw hI_af G hS hcs hl
    refine lv_iload hx hb dL_law_200 (lv_at hl 5 rfl) ?_
    refine lv_bipushN hx hb 58 dL_law_202 (by decide) ?_
    refine lv_icmpN_ge (tgt := 901) hx hb dL_law_204 (by decide) (by omega) (by omega) (fun c_204 => ?_) (fun c_204 => ?_)
    · have e : k = 58 := by omega
      subst e
      exact kk H locs cy F ls cells slots hW hI_aw G hS ⟨by omega, by omega⟩ (lv_sub hl [0, 1, 2] rfl)
    · refine law_step C0 hW hI_aw hI_af hne_aw_af hA_aw hA_af G hs3 (show k < 58 by omega) hS ⟨by omega, by omega⟩ (fun H1 locs1 c2 F2 ls1 hW hI_aw hI_af G hS hl => ?_) hl
      refine law_seen C0 hW hI_aw hI_af hne_aw_af hA_aw hA_af (show k < 100 by omega) G hs3 hS ⟨by omega, by omega⟩ (fun H1 locs1 ls1 hW hI_aw hI_af hS hl => ?_) hl
      exact ih (k + 1) c2 F2 H1 locs1 ls1 _ _ (by omega) (by omega) hW hI_aw hI_af G hS ⟨by omega, by omega⟩ hl
set_option maxHeartbeats 4000000 in
set_option maxRecDepth 100000 in
theorem law_end (C : LC p l s m co E bb Ln xs) {x aw af hs : Nat} {g F : Nat → Int32} {cy : Cy} {H : Heap} {locs : List Loc} (hW : CW E x cy [aw, af] H) (hI_aw : iA E aw 3 g H) (G : GI cy g hs F 58) (hs3 : 3 ≤ hs) (hS : va_S (bA E) s.heap H locs) {cells slots : Nat} (hcs : cells ≤ 1000 ∧ slots ≤ 100000) (kk : ∀ (locs1 : List Loc) (ls1 : Array Slot), va_S (bA E) s.heap H locs1 → W p l e room_1 s m #[Value.ref bb] below meth co H locs1 cells slots Q (F0 m 1070 ls1 [])) {ls : Array Slot} (hl : lv_has ls 22 [(0, .ref bb), (1, .ref x), (2, .ref aw)]) : W p l e room_1 s m #[Value.ref bb] below meth co H locs cells slots Q (F0 m 901 ls []) := by
  obtain ⟨hx, hb, hml, hown, hC, hXs, hbl, hE0, hst, hLn⟩ := C
  have hAb : ∀ q, bA E q → bA E q := fun _ h => h
  have hbA : ¬ bA E bb := fun z => absurd hbl (Nat.not_lt.mpr (by rw [← hE0]; exact z))
  have wf := hW.wf
  have hw3 := G.nw
  have hw1 := G.nw1
  have hwh := G.nh
  have hwh1 := G.nh1
  have hwl := G.nl
  have hwl6 := wf.nl
  have hwh8 := wf.nh
  have hnt := wf.nt
  have hti := G.ti
  have hwd := wf.wd (show 0 < cy.R 11 0 by omega)
  refine lv_aload_n hx hb dL_law_901 rfl (lv_at hl 1 rfl) ?_
  refine la_VL (As := []) (rest := []) (v := dgS cy) hx hb hml hown hC hS hAb hW (fun ly L ad hX => mX3_digest l hX  ) kV_L_82 ⟨rfl, rfl⟩ ⟨Nat.le_of_ble_eq_true rfl, Nat.le_of_ble_eq_true rfl⟩ rfl hl (Nat.le_of_ble_eq_true rfl) ⟨show cells ≤ (600074 : Nat) by omega, show slots ≤ (7301550 : Nat) by omega⟩ dL_law_902 ?_
  refine lv_lstore (lv' := [(5, .long (dgS cy)), (0, .ref bb), (1, .ref x), (2, .ref aw)]) hx hb dL_law_905 hl (by decide) rfl (fun ls hl => ?_)
  obtain ⟨b9, hb3, hbe, hbm⟩ := bf_best wf hw1
  refine lv_aload_n hx hb dL_law_907 rfl (lv_at hl 2 rfl) ?_
  refine lv_iconstN hx hb 0 dL_law_908 (by decide) ?_
  refine lv_iconstN hx hb 0 dL_law_909 (by decide) ?_
  refine lv_iconstN hx hb 3 dL_law_910 (by decide) ?_
  refine lv_iconstN hx hb 1 dL_law_911 (by decide) ?_
  refine la_V (As := [.int (nI 0), .int (nI 0), .int (nI 3), .int (nI 1)]) (rest := []) (v := nI b9) hx hb hml hown hC hS hAb hW (fun ly L ad hX => RoI.cast (hbe) (mX3_bestFrom_g l hX 0 0 3 1 (show 0 < cy.R 10 1 by first | assumption | omega) (show 0 < cy.R 10 0 by first | assumption | omega) (show 1 ≤ 3 by first | assumption | omega) (show 3 ≤ 16 by first | assumption | omega) (show 1 < 4 by first | assumption | omega))) kV_L_86 ⟨rfl, rfl⟩ ⟨Nat.le_of_ble_eq_true rfl, Nat.le_of_ble_eq_true rfl⟩ rfl hl (Nat.le_of_ble_eq_true rfl) ⟨show cells ≤ (600074 : Nat) by omega, show slots ≤ (7301550 : Nat) by omega⟩ dL_law_912 ?_
  refine lv_istore (lv' := [(7, .int (nI b9)), (5, .long (dgS cy)), (0, .ref bb), (1, .ref x), (2, .ref aw)]) hx hb dL_law_915 hl (by decide) rfl (fun ls hl => ?_)
  refine lv_iconstN hx hb 0 dL_law_917 (by decide) ?_
  refine lv_istore (lv' := [(8, .int (nI 0)), (7, .int (nI b9)), (5, .long (dgS cy)), (0, .ref bb), (1, .ref x), (2, .ref aw)]) hx hb dL_law_918 hl (by decide) rfl (fun ls hl => ?_)
  have lp920 : ∀ fu : Nat, ∀ (k : Nat), (k ≤ cy.R 1 0) → cy.R 1 0 + 1 - k < fu → ∀ ls : Array Slot, lv_has ls 22 [(0, .ref bb), (1, .ref x), (2, .ref aw), (5, .long (dgS cy)), (7, .int (nI b9)), (8, .int (nI k))] → W p l e room_1 s m #[Value.ref bb] below meth co H locs cells slots Q (F0 m 920 ls []) := by
    intro fu
    induction fu with
    | zero => intro k hk hfu; exact absurd hfu (Nat.not_lt_zero _)
    | succ fu ih920 =>
      intro k hk hfu ls hl
      refine lv_iload hx hb dL_law_920 (lv_at hl 5 rfl) ?_
      refine lv_iconstN hx hb 3 dL_law_922 (by decide) ?_
      refine lv_iaddN hx hb dL_law_923 ?_
      refine lv_aload_n hx hb dL_law_924 rfl (lv_at hl 2 rfl) ?_
      refine lv_iconstN hx hb 0 dL_law_925 (by decide) ?_
      refine li_ld hx hb hC hI_aw (j := 0) (by first | assumption | omega) (by omega) dL_law_926 ?_
      rw [show g 0 = nI (cy.R 1 0) from G.wi (by omega)]
      refine lv_icmpN_gt (tgt := 961) hx hb dL_law_927 (by decide) (by omega) (by omega) (fun c_927 => ?_) (fun c_927 => ?_)
      · skip
        refine lv_aload_n hx hb dL_law_961 rfl (lv_at hl 1 rfl) ?_
        refine la_V (As := []) (rest := []) (v := nbS cy) hx hb hml hown hC hS hAb hW (fun ly L ad hX => mX3_nextBuff l hX  ) kV_L_93 ⟨rfl, rfl⟩ ⟨Nat.le_of_ble_eq_true rfl, Nat.le_of_ble_eq_true rfl⟩ rfl hl (Nat.le_of_ble_eq_true rfl) ⟨show cells ≤ (600074 : Nat) by omega, show slots ≤ (7301550 : Nat) by omega⟩ dL_law_962 ?_
        refine lv_istore (lv' := [(8, .int (nbS cy)), (0, .ref bb), (1, .ref x), (2, .ref aw), (5, .long (dgS cy)), (7, .int (nI b9))]) hx hb dL_law_965 hl (by decide) rfl (fun ls hl => ?_)
        refine lv_iconstN hx hb 0 dL_law_967 (by decide) ?_
        refine lv_istore (lv' := [(9, .int (nI 0)), (8, .int (nbS cy)), (0, .ref bb), (1, .ref x), (2, .ref aw), (5, .long (dgS cy)), (7, .int (nI b9))]) hx hb dL_law_968 hl (by decide) rfl (fun ls hl => ?_)
        have lp970 : ∀ fu : Nat, ∀ (k : Nat), (k ≤ 3) → 3 - k < fu → ∀ ls : Array Slot, lv_has ls 22 [(0, .ref bb), (1, .ref x), (2, .ref aw), (5, .long (dgS cy)), (8, .int (nbS cy)), (9, .int (nI k))] → W p l e room_1 s m #[Value.ref bb] below meth co H locs cells slots Q (F0 m 970 ls []) := by
          intro fu
          induction fu with
          | zero => intro k hk hfu; exact absurd hfu (Nat.not_lt_zero _)
          | succ fu ih970 =>
            intro k hk hfu ls hl
            refine lv_iload hx hb dL_law_970 (lv_at hl 5 rfl) ?_
            refine lv_iconstN hx hb 3 dL_law_972 (by decide) ?_
            refine lv_icmpN_ge (tgt := 1029) hx hb dL_law_973 (by decide) (by omega) (by omega) (fun c_973 => ?_) (fun c_973 => ?_)
            · skip
              refine lv_aload_n hx hb dL_law_1029 rfl (lv_at hl 1 rfl) ?_
              refine lv_iconstN hx hb 0 dL_law_1030 (by decide) ?_
              refine lv_iconstN hx hb 0 dL_law_1031 (by decide) ?_
              refine la_V (As := [.int (nI 0), .int (nI 0)]) (rest := []) (v := wbfS cy 0 0) hx hb hml hown hC hS hAb hW (fun ly L ad hX => mX3_wouldFame_g l hX 0 0 (show 0 < cy.R 10 1 by first | assumption | omega) (show 0 ≤ 30 by first | assumption | omega)) kV_L_97 ⟨rfl, rfl⟩ ⟨Nat.le_of_ble_eq_true rfl, Nat.le_of_ble_eq_true rfl⟩ rfl hl (Nat.le_of_ble_eq_true rfl) ⟨show cells ≤ (600074 : Nat) by omega, show slots ≤ (7301550 : Nat) by omega⟩ dL_law_1032 ?_
              refine lv_aload_n hx hb dL_law_1035 rfl (lv_at hl 1 rfl) ?_
              refine lv_iconstN hx hb 0 dL_law_1036 (by decide) ?_
              refine lv_iconstN hx hb 4 dL_law_1037 (by decide) ?_
              refine la_V (As := [.int (nI 0), .int (nI 4)]) (rest := [.int (wbfS cy 0 0)]) (v := fmS cy 0) hx hb hml hown hC hS hAb hW (fun ly L ad hX => RoI.cast oh4 (mX3_ofHand_g l hX 0 4 (show 0 < cy.R 10 1 by first | assumption | omega) (show 4 ≤ 10 by first | assumption | omega))) kV_L_68 ⟨rfl, rfl⟩ ⟨Nat.le_of_ble_eq_true rfl, Nat.le_of_ble_eq_true rfl⟩ rfl hl (Nat.le_of_ble_eq_true rfl) ⟨show cells ≤ (600074 : Nat) by omega, show slots ≤ (7301550 : Nat) by omega⟩ dL_law_1038 ?_
              refine lv_icmp_ne (tgt := 1074) hx hb dL_law_1041 (by decide) (fun c_1041 => ?_) (fun c_1041 => ?_)
              · skip
                exact absurd (wbf_0 0) c_1041
              · skip
                refine lv_aload_n hx hb dL_law_1044 rfl (lv_at hl 1 rfl) ?_
                refine lv_iconstN hx hb 1 dL_law_1045 (by decide) ?_
                refine lv_bipushN hx hb 30 dL_law_1046 (by decide) ?_
                refine la_V (As := [.int (nI 1), .int (nI 30)]) (rest := []) (v := wbfS cy 1 30) hx hb hml hown hC hS hAb hW (fun ly L ad hX => mX3_wouldFame_g l hX 1 30 (show 1 < cy.R 10 1 by first | assumption | omega) (show 30 ≤ 30 by first | assumption | omega)) kV_L_97 ⟨rfl, rfl⟩ ⟨Nat.le_of_ble_eq_true rfl, Nat.le_of_ble_eq_true rfl⟩ rfl hl (Nat.le_of_ble_eq_true rfl) ⟨show cells ≤ (600074 : Nat) by omega, show slots ≤ (7301550 : Nat) by omega⟩ dL_law_1048 ?_
                refine lv_aload_n hx hb dL_law_1051 rfl (lv_at hl 1 rfl) ?_
                refine lv_iconstN hx hb 1 dL_law_1052 (by decide) ?_
                refine lv_iconstN hx hb 4 dL_law_1053 (by decide) ?_
                refine la_V (As := [.int (nI 1), .int (nI 4)]) (rest := [.int (wbfS cy 1 30)]) (v := fmS cy 1) hx hb hml hown hC hS hAb hW (fun ly L ad hX => RoI.cast oh4 (mX3_ofHand_g l hX 1 4 (show 1 < cy.R 10 1 by first | assumption | omega) (show 4 ≤ 10 by first | assumption | omega))) kV_L_68 ⟨rfl, rfl⟩ ⟨Nat.le_of_ble_eq_true rfl, Nat.le_of_ble_eq_true rfl⟩ rfl hl (Nat.le_of_ble_eq_true rfl) ⟨show cells ≤ (600074 : Nat) by omega, show slots ≤ (7301550 : Nat) by omega⟩ dL_law_1054 ?_
                refine lv_icmp_gt (tgt := 1074) hx hb dL_law_1057 (by decide) (fun c_1057 => ?_) (fun c_1057 => ?_)
                · skip
                  exact absurd c_1057 (wbf_le wf hw3 hw1 1 30)
                · skip
                  refine lv_aload_n hx hb dL_law_1060 rfl (lv_at hl 1 rfl) ?_
                  refine la_VL (As := []) (rest := []) (v := dgS cy) hx hb hml hown hC hS hAb hW (fun ly L ad hX => mX3_digest l hX  ) kV_L_82 ⟨rfl, rfl⟩ ⟨Nat.le_of_ble_eq_true rfl, Nat.le_of_ble_eq_true rfl⟩ rfl hl (Nat.le_of_ble_eq_true rfl) ⟨show cells ≤ (600074 : Nat) by omega, show slots ≤ (7301550 : Nat) by omega⟩ dL_law_1061 ?_
                  refine lv_lload hx hb dL_law_1064 (lv_at hl 3 rfl) ?_
                  refine W.lcmp hx hb dL_law_1066 ?_
                  rw [lg_self]
                  refine lv_if_ne (tgt := 1074) hx hb dL_law_1067 (by decide) (fun c_1067 => ?_) (fun c_1067 => ?_)
                  · skip
                    exact absurd rfl c_1067
                  · skip
                    exact kk _ _ hS
            · skip
              refine lv_iload hx hb dL_law_976 (lv_at hl 4 rfl) ?_
              refine lv_if_lt (tgt := 1023) hx hb dL_law_978 (by decide) (fun c_978 => ?_) (fun c_978 => ?_)
              · skip
                refine lv_iincN (v := 1) (lv' := [(9, .int (nI (k + 1))), (0, .ref bb), (1, .ref x), (2, .ref aw), (5, .long (dgS cy)), (8, .int (nbS cy))]) hx hb dL_law_1023 hl (k := 5) rfl (by decide) (by decide) rfl (fun ls hl => ?_)
                refine lv_goto (tgt := 970) hx hb dL_law_1026 (by decide) ?_
                exact ih970 (k + 1) (by omega) (by omega) _ (lv_sub hl [1, 2, 3, 4, 5, 0] rfl)
              · skip
                have e3 : nbS cy = (nbF cy 3).1 := by unfold nbS; rw [hw3]
                obtain ⟨h1, hall⟩ := nbF_p (c := cy) 3
                rcases h1 with ⟨h1, -⟩ | ⟨xb, hxb, h1, h2⟩
                · exact absurd (show nbS cy < 0 by rw [e3, h1]; decide) c_978
                have e4 : nbS cy = nI xb := e3.trans h1
                rw [e4] at hl
                refine lv_aload_n hx hb dL_law_981 rfl (lv_at hl 1 rfl) ?_
                refine lv_iload hx hb dL_law_982 (lv_at hl 5 rfl) ?_
                refine lv_iconstN hx hb 5 dL_law_984 (by decide) ?_
                refine la_V (As := [.int (nI k), .int (nI 5)]) (rest := []) (v := eyS cy k) hx hb hml hown hC hS hAb hW (fun ly L ad hX => RoI.cast ow5 (mX3_ofWall_g l hX k 5 (show k < cy.R 10 0 by first | assumption | omega) (show 5 ≤ 6 by first | assumption | omega))) kV_L_42 ⟨rfl, rfl⟩ ⟨Nat.le_of_ble_eq_true rfl, Nat.le_of_ble_eq_true rfl⟩ rfl hl (Nat.le_of_ble_eq_true rfl) ⟨show cells ≤ (600074 : Nat) by omega, show slots ≤ (7301550 : Nat) by omega⟩ dL_law_985 ?_
                refine lv_aload_n hx hb dL_law_988 rfl (lv_at hl 1 rfl) ?_
                refine lv_iload hx hb dL_law_989 (lv_at hl 4 rfl) ?_
                refine lv_iconstN hx hb 5 dL_law_991 (by decide) ?_
                refine la_V (As := [.int (nI xb), .int (nI 5)]) (rest := [.int (eyS cy k)]) (v := eyS cy xb) hx hb hml hown hC hS hAb hW (fun ly L ad hX => RoI.cast ow5 (mX3_ofWall_g l hX xb 5 (show xb < cy.R 10 0 by first | assumption | omega) (show 5 ≤ 6 by first | assumption | omega))) kV_L_42 ⟨rfl, rfl⟩ ⟨Nat.le_of_ble_eq_true rfl, Nat.le_of_ble_eq_true rfl⟩ rfl hl (Nat.le_of_ble_eq_true rfl) ⟨show cells ≤ (600074 : Nat) by omega, show slots ≤ (7301550 : Nat) by omega⟩ dL_law_992 ?_
                refine lv_icmp_le (tgt := 1023) hx hb dL_law_995 (by decide) (fun c_995 => ?_) (fun c_995 => ?_)
                · skip
                  have c_995 := Int32.not_lt.mpr c_995
                  refine lv_iincN (v := 1) (lv' := [(9, .int (nI (k + 1))), (0, .ref bb), (1, .ref x), (2, .ref aw), (5, .long (dgS cy)), (8, .int (nI xb))]) hx hb dL_law_1023 hl (k := 5) rfl (by decide) (by decide) rfl (fun ls hl => ?_)
                  refine lv_goto (tgt := 970) hx hb dL_law_1026 (by decide) ?_
                  rw [← e4] at hl
                  exact ih970 (k + 1) (by omega) (by omega) _ (lv_sub hl [1, 2, 3, 4, 5, 0] rfl)
                · skip
                  have c_995 := Int32.not_le.mp c_995
                  obtain ⟨q9, hq1, hq9, hq2, hq3, hq4⟩ := ey_div wf hw1 (z := k) (by omega)
                  have hm9 : q9 * ctbS cy k ≤ 9 * 16 := Nat.mul_le_mul hq9 (ctb_le wf (by omega))
                  refine lv_aload_n hx hb dL_law_998 rfl (lv_at hl 1 rfl) ?_
                  refine lv_iload hx hb dL_law_999 (lv_at hl 5 rfl) ?_
                  refine lv_iconstN hx hb 5 dL_law_1001 (by decide) ?_
                  refine la_V (As := [.int (nI k), .int (nI 5)]) (rest := []) (v := nI (q9 * ctbS cy k)) hx hb hml hown hC hS hAb hW (fun ly L ad hX => RoI.cast (ow5.trans hq3) (mX3_ofWall_g l hX k 5 (show k < cy.R 10 0 by first | assumption | omega) (show 5 ≤ 6 by first | assumption | omega))) kV_L_42 ⟨rfl, rfl⟩ ⟨Nat.le_of_ble_eq_true rfl, Nat.le_of_ble_eq_true rfl⟩ rfl hl (Nat.le_of_ble_eq_true rfl) ⟨show cells ≤ (600074 : Nat) by omega, show slots ≤ (7301550 : Nat) by omega⟩ dL_law_1002 ?_
                  refine lv_aload_n hx hb dL_law_1005 rfl (lv_at hl 1 rfl) ?_
                  refine lv_iload hx hb dL_law_1006 (lv_at hl 5 rfl) ?_
                  refine lv_iconstN hx hb 1 dL_law_1008 (by decide) ?_
                  refine la_V (As := [.int (nI k), .int (nI 1)]) (rest := [.int (nI (q9 * ctbS cy k))]) (v := nI q9) hx hb hml hown hC hS hAb hW (fun ly L ad hX => RoI.cast (ow1.trans hq2) (mX3_ofWall_g l hX k 1 (show k < cy.R 10 0 by first | assumption | omega) (show 1 ≤ 6 by first | assumption | omega))) kV_L_42 ⟨rfl, rfl⟩ ⟨Nat.le_of_ble_eq_true rfl, Nat.le_of_ble_eq_true rfl⟩ rfl hl (Nat.le_of_ble_eq_true rfl) ⟨show cells ≤ (600074 : Nat) by omega, show slots ≤ (7301550 : Nat) by omega⟩ dL_law_1009 ?_
                  refine lv_idivN hx hb dL_law_1012 (by omega) (by omega) (by omega) ?_
                  refine lv_aload_n hx hb dL_law_1013 rfl (lv_at hl 1 rfl) ?_
                  refine lv_iconstN hx hb 5 dL_law_1014 (by decide) ?_
                  refine la_V (As := [.int (nI 5)]) (rest := [.int (nI ((q9 * ctbS cy k) / q9))]) (v := cy.I 0 0) hx hb hml hown hC hS hAb hW (fun ly L ad hX => RoI.cast ma5 (mX3_many_g l hX 5 (show 5 ≤ 11 by first | assumption | omega))) kV_L_29 ⟨rfl, rfl⟩ ⟨Nat.le_of_ble_eq_true rfl, Nat.le_of_ble_eq_true rfl⟩ rfl hl (Nat.le_of_ble_eq_true rfl) ⟨show cells ≤ (600074 : Nat) by omega, show slots ≤ (7301550 : Nat) by omega⟩ dL_law_1015 ?_
                  refine lv_icmp_gt (tgt := 1023) hx hb dL_law_1018 (by decide) (fun c_1018 => ?_) (fun c_1018 => ?_)
                  · skip
                    refine lv_iincN (v := 1) (lv' := [(9, .int (nI (k + 1))), (0, .ref bb), (1, .ref x), (2, .ref aw), (5, .long (dgS cy)), (8, .int (nI xb))]) hx hb dL_law_1023 hl (k := 5) rfl (by decide) (by decide) rfl (fun ls hl => ?_)
                    refine lv_goto (tgt := 970) hx hb dL_law_1026 (by decide) ?_
                    rw [← e4] at hl
                    exact ih970 (k + 1) (by omega) (by omega) _ (lv_sub hl [1, 2, 3, 4, 5, 0] rfl)
                  · skip
                    exact absurd (by rw [Nat.mul_div_cancel_left _ (by omega)]; exact Decidable.byContradiction (fun z => hall k (by omega) z (by rw [h2]; exact c_995))) c_1018
        exact lp970 (3 - 0 + 1) 0 (Nat.zero_le _) (Nat.lt_succ_self _) _ (lv_sub hl [2, 3, 4, 5, 1, 0] rfl)
      · skip
        refine lv_aload_n hx hb dL_law_930 rfl (lv_at hl 1 rfl) ?_
        refine lv_iconstN hx hb 0 dL_law_931 (by decide) ?_
        refine lv_iconstN hx hb 0 dL_law_932 (by decide) ?_
        refine lv_iload hx hb dL_law_933 (lv_at hl 5 rfl) ?_
        refine lv_iconstN hx hb 3 dL_law_935 (by decide) ?_
        refine lv_iconstN hx hb 1 dL_law_936 (by decide) ?_
        have hck := cwr_le cy 0 0 k 3 1
        have hcb := cwr_le cy 0 0 b9 3 1
        refine la_V (As := [.int (nI 0), .int (nI 0), .int (nI k), .int (nI 3), .int (nI 1)]) (rest := []) (v := nI (cwrS cy 0 0 k 3 1)) hx hb hml hown hC hS hAb hW (fun ly L ad hX => mX3_wouldWrong_g l hX 0 0 k 3 1 (show 0 < cy.R 10 1 by first | assumption | omega) (show 0 < cy.R 10 0 by first | assumption | omega) (show k + 3 ≤ cy.R 1 0 by first | assumption | omega) (show 1 ≤ 3 by first | assumption | omega) (show 1 < 4 by first | assumption | omega)) kV_L_89 ⟨rfl, rfl⟩ ⟨Nat.le_of_ble_eq_true rfl, Nat.le_of_ble_eq_true rfl⟩ rfl hl (Nat.le_of_ble_eq_true rfl) ⟨show cells ≤ (600074 : Nat) by omega, show slots ≤ (7301550 : Nat) by omega⟩ dL_law_937 ?_
        refine lv_aload_n hx hb dL_law_940 rfl (lv_at hl 1 rfl) ?_
        refine lv_iconstN hx hb 0 dL_law_941 (by decide) ?_
        refine lv_iconstN hx hb 0 dL_law_942 (by decide) ?_
        refine lv_iload hx hb dL_law_943 (lv_at hl 4 rfl) ?_
        refine lv_iconstN hx hb 3 dL_law_945 (by decide) ?_
        refine lv_iconstN hx hb 1 dL_law_946 (by decide) ?_
        refine la_V (As := [.int (nI 0), .int (nI 0), .int (nI b9), .int (nI 3), .int (nI 1)]) (rest := [.int (nI (cwrS cy 0 0 k 3 1))]) (v := nI (cwrS cy 0 0 b9 3 1)) hx hb hml hown hC hS hAb hW (fun ly L ad hX => mX3_wouldWrong_g l hX 0 0 b9 3 1 (show 0 < cy.R 10 1 by first | assumption | omega) (show 0 < cy.R 10 0 by first | assumption | omega) (show b9 + 3 ≤ cy.R 1 0 by first | assumption | omega) (show 1 ≤ 3 by first | assumption | omega) (show 1 < 4 by first | assumption | omega)) kV_L_89 ⟨rfl, rfl⟩ ⟨Nat.le_of_ble_eq_true rfl, Nat.le_of_ble_eq_true rfl⟩ rfl hl (Nat.le_of_ble_eq_true rfl) ⟨show cells ≤ (600074 : Nat) by omega, show slots ≤ (7301550 : Nat) by omega⟩ dL_law_947 ?_
        refine lv_icmpN_ge (tgt := 955) hx hb dL_law_950 (by decide) (by omega) (by omega) (fun c_950 => ?_) (fun c_950 => ?_)
        · skip
          refine lv_iincN (v := 1) (lv' := [(8, .int (nI (k + 1))), (0, .ref bb), (1, .ref x), (2, .ref aw), (5, .long (dgS cy)), (7, .int (nI b9))]) hx hb dL_law_955 hl (k := 5) rfl (by decide) (by decide) rfl (fun ls hl => ?_)
          refine lv_goto (tgt := 920) hx hb dL_law_958 (by decide) ?_
          exact ih920 (k + 1) (by omega) (by omega) _ (lv_sub hl [1, 2, 3, 4, 5, 0] rfl)
        · skip
          have h9 := hbm k (by omega); omega
  exact lp920 (cy.R 1 0 + 1 - 0 + 1) 0 (Nat.zero_le _) (Nat.lt_succ_self _) _ (lv_sub hl [3, 4, 5, 2, 1, 0] rfl)
end CAS
