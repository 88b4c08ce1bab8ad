section CAS
variable {p : Program} {l : Launch} {e : Env} {s : State} {m : MethodId} {below : List Frame} {meth : Method} {co : Code} {bb Ln : Nat} {xs : Nat → Int32} {E : En} {Q : State → Prop}
set_option maxHeartbeats 4000000 in
set_option maxRecDepth 100000 in
theorem lc_meanFame (C0 : LC p l s m co E bb Ln xs) {c : Cy} {th : Int32} {v0 : Int64} {H : Heap} {locs : List Loc} {x mm out : Nat} (hT : LT E s.heap x mm out c c th v0 H locs) {ii : Nat} (hii : ii + 7 ≤ Ln) {cells slots : Nat} (hcs : cells + 1100 ≤ 609960 ∧ slots + 14000 ≤ 7266223) {ls : Array Slot} (hl : lv_has ls 9 [(4, .int (nI ii)), (0, .ref bb), (1, .ref x), (2, .ref mm), (3, .ref out)]) (kk : KK p l e s m below meth co bb E Q x mm out ii cells slots) : W p l e room_1 s m #[Value.ref bb] below meth co H locs cells slots Q (F0 m 1488 ls []) := by
  obtain ⟨hx, hb, hml, hown, hC, hNc, hXs, hbl, hE0, hst, hLn⟩ := C0
  have hAb : ∀ q, bA E q → bA E q := fun _ h => h
  have hbb : ¬ bA E bb := by show ¬ E.2 0 ≤ bb; rw [hE0]; exact Nat.not_le.mpr hbl
  obtain ⟨ly, L, ad, ly', L', ad', hX, hM, hx0, hm0, hdj, hoL, hoM, hO, hob, hS⟩ := hT
  have hLb := hX.2.2.1
  have hLbM := hM.2.2.1
  have hz0 : ∀ q, H.size ≤ q → bA E q := fun q z => by show E.2 0 ≤ q; rw [hE0]; exact Nat.le_trans hS.1 z
  refine lv_aload_n hx hb dL_law_1488 rfl (lv_at hl 2 rfl) ?_
  have hMt := mX3_meanFame l hX
  rw [hx0] at hMt
  refine ro_VD (As := []) (h0 := x) (rest := []) (v := mfS c) hx hb hml hown hC hS hAb hMt kV_L_160 ⟨rfl, rfl⟩ ⟨Nat.le_of_ble_eq_true rfl, Nat.le_of_ble_eq_true rfl⟩ (by rw [← hx0]; exact hX.1.recv hC cX_0 rfl) rfl hl (Nat.le_of_ble_eq_true rfl) ⟨show cells + 0 ≤ 609960 by omega, show slots + 0 ≤ 7266223 by omega⟩ dL_law_1489 (fun locs hS => ?_)
  refine lv_dstore (lv' := [(5, .double (mfS c)), (4, .int (nI ii)), (0, .ref bb), (1, .ref x), (2, .ref mm), (3, .ref out)]) hx hb dL_law_1492 hl (by decide) rfl (fun ls hl => ?_)
  refine lv_aload_n hx hb dL_law_1494 rfl (lv_at hl 4 rfl) ?_
  have hMt := mX7_meanFame l hM 
  rw [hm0] at hMt
  refine mu_VD (As := []) (h0 := mm) (rest := []) (v := mfS c) hx hb hml hown hC hS hAb hMt (fun q h => h.elim (hLbM q) (hz0 q)) kV_L_164 ⟨rfl, rfl⟩ ⟨Nat.le_of_ble_eq_true rfl, Nat.le_of_ble_eq_true rfl⟩ (by rw [← hm0]; exact hM.1.recv hC cM_0 rfl) rfl hl (Nat.le_of_ble_eq_true rfl) ⟨show cells + 8 ≤ 609960 by omega, show slots + 32 ≤ 7266223 by omega⟩ dL_law_1495 (fun H locs hB hS1 hz hkk => ?_)
  have hT := lt_m hX hM hx0 hm0 hdj hoL hoM hO hob ⟨L', ly', ad', hB, hm0, fun q h => Or.inl h⟩ hkk hS1
  obtain ⟨ly, L, ad, ly', L', ad', hX, hM, hx0, hm0, hdj, hoL, hoM, hO, hob, hS⟩ := hT
  have hLb := hX.2.2.1
  have hLbM := hM.2.2.1
  have hz0 : ∀ q, H.size ≤ q → bA E q := fun q z => by show E.2 0 ≤ q; rw [hE0]; exact Nat.le_trans hS.1 z
  refine lv_dstore (lv' := [(7, .double (mfS c)), (5, .double (mfS c)), (4, .int (nI ii)), (0, .ref bb), (1, .ref x), (2, .ref mm), (3, .ref out)]) hx hb dL_law_1498 hl (by decide) rfl (fun ls hl => ?_)
  have hT : LT E s.heap x mm out _ _ _ _ H locs := ⟨ly, L, ad, ly', L', ad', hX, hM, hx0, hm0, hdj, hoL, hoM, hO, hob, hS⟩
  refine lv_dload hx hb dL_law_1500 (lv_at hl 1 rfl) ?_
  refine lv_dload hx hb dL_law_1502 (lv_at hl 0 rfl) ?_
  refine lv_dcmp hx hb dL_law_1504 ?_
  refine lv_if_eq (tgt := 1526) hx hb dL_law_1505 (by decide) (fun _ => ?_) (fun c9 => ?_)
  · skip
    refine lv_goto (tgt := 1820) hx hb dL_law_1526 (by decide) ?_
    refine W.widen (k := cells + 1100) (n := slots + 14000) (by omega) (by omega) ?_
    exact kk _ _ _ _ _ _ hT (lv_sub hl [2, 3, 4, 5, 6] rfl)
  · skip
    refine lv_dload hx hb dL_law_1508 (lv_at hl 1 rfl) ?_
    refine lv_dload hx hb dL_law_1510 (lv_at hl 1 rfl) ?_
    refine lv_dcmp hx hb dL_law_1512 ?_
    refine lv_if_eq (tgt := 1524) hx hb dL_law_1513 (by decide) (fun c8 => absurd c8 c9) (fun _ => ?_)
    refine lv_dload hx hb dL_law_1516 (lv_at hl 0 rfl) ?_
    refine lv_dload hx hb dL_law_1518 (lv_at hl 0 rfl) ?_
    refine lv_dcmp hx hb dL_law_1520 ?_
    refine lv_if_ne (tgt := 1526) hx hb dL_law_1521 (by decide) (fun _ => ?_) (fun c8 => absurd c8 c9)
    refine lv_goto (tgt := 1820) hx hb dL_law_1526 (by decide) ?_
    refine W.widen (k := cells + 1100) (n := slots + 14000) (by omega) (by omega) ?_
    exact kk _ _ _ _ _ _ hT (lv_sub hl [2, 3, 4, 5, 6] rfl)
set_option maxHeartbeats 4000000 in
set_option maxRecDepth 100000 in
theorem lc_nextBuff (C0 : LC p l s m co E bb Ln xs) {c : Cy} {th : Int32} {v0 : Int64} {H : Heap} {locs : List Loc} {x mm out : Nat} (hT : LT E s.heap x mm out c c th v0 H locs) {ii : Nat} (hii : ii + 7 ≤ Ln) {cells slots : Nat} (hcs : cells + 1100 ≤ 609960 ∧ slots + 14000 ≤ 7266223) {ls : Array Slot} (hl : lv_has ls 9 [(4, .int (nI ii)), (0, .ref bb), (1, .ref x), (2, .ref mm), (3, .ref out)]) (kk : KK p l e s m below meth co bb E Q x mm out ii cells slots) : W p l e room_1 s m #[Value.ref bb] below meth co H locs cells slots Q (F0 m 1725 ls []) := by
  obtain ⟨hx, hb, hml, hown, hC, hNc, hXs, hbl, hE0, hst, hLn⟩ := C0
  have hAb : ∀ q, bA E q → bA E q := fun _ h => h
  have hbb : ¬ bA E bb := by show ¬ E.2 0 ≤ bb; rw [hE0]; exact Nat.not_le.mpr hbl
  obtain ⟨ly, L, ad, ly', L', ad', hX, hM, hx0, hm0, hdj, hoL, hoM, hO, hob, hS⟩ := hT
  have hLb := hX.2.2.1
  have hLbM := hM.2.2.1
  have hz0 : ∀ q, H.size ≤ q → bA E q := fun q z => by show E.2 0 ≤ q; rw [hE0]; exact Nat.le_trans hS.1 z
  refine lv_aload_n hx hb dL_law_1725 rfl (lv_at hl 2 rfl) ?_
  have hMt := mX3_nextBuff l hX
  rw [hx0] at hMt
  refine ro_V (As := []) (h0 := x) (rest := []) (v := nbS c) hx hb hml hown hC hS hAb hMt kV_L_172 ⟨rfl, rfl⟩ ⟨Nat.le_of_ble_eq_true rfl, Nat.le_of_ble_eq_true rfl⟩ (by rw [← hx0]; exact hX.1.recv hC cX_0 rfl) rfl hl (Nat.le_of_ble_eq_true rfl) ⟨show cells + 0 ≤ 609960 by omega, show slots + 0 ≤ 7266223 by omega⟩ dL_law_1726 ?_
  refine lv_aload_n hx hb dL_law_1729 rfl (lv_at hl 3 rfl) ?_
  have hMt := mX7_nextBuff_g l hM 
  rw [hm0] at hMt
  refine mu_V (As := []) (h0 := mm) (rest := [.int (nbS c)]) (v := nbS c) hx hb hml hown hC hS hAb hMt (fun q h => h.elim (hLbM q) (hz0 q)) kV_L_175 ⟨rfl, rfl⟩ ⟨Nat.le_of_ble_eq_true rfl, Nat.le_of_ble_eq_true rfl⟩ (by rw [← hm0]; exact hM.1.recv hC cM_0 rfl) rfl hl (Nat.le_of_ble_eq_true rfl) ⟨show cells + 0 ≤ 609960 by omega, show slots + 0 ≤ 7266223 by omega⟩ dL_law_1730 (fun H locs hB hS1 hz hkk => ?_)
  have hT := lt_m hX hM hx0 hm0 hdj hoL hoM hO hob ⟨L', ly', ad', hB, hm0, fun q h => Or.inl h⟩ hkk hS1
  obtain ⟨ly, L, ad, ly', L', ad', hX, hM, hx0, hm0, hdj, hoL, hoM, hO, hob, hS⟩ := hT
  have hLb := hX.2.2.1
  have hLbM := hM.2.2.1
  have hz0 : ∀ q, H.size ≤ q → bA E q := fun q z => by show E.2 0 ≤ q; rw [hE0]; exact Nat.le_trans hS.1 z
  have hT : LT E s.heap x mm out _ _ _ _ H locs := ⟨ly, L, ad, ly', L', ad', hX, hM, hx0, hm0, hdj, hoL, hoM, hO, hob, hS⟩
  refine lv_icmp_eq (tgt := 1820) hx hb dL_law_1733 (by decide) (fun _ => ?_) (fun c9 => absurd rfl c9)
  refine W.widen (k := cells + 1100) (n := slots + 14000) (by omega) (by omega) ?_
  exact kk _ _ _ _ _ _ hT (lv_sub hl [0, 1, 2, 3, 4] rfl)
set_option maxHeartbeats 4000000 in
set_option maxRecDepth 100000 in
theorem lc_digest (C0 : LC p l s m co E bb Ln xs) {c : Cy} {th : Int32} {v0 : Int64} {H : Heap} {locs : List Loc} {x mm out : Nat} (hT : LT E s.heap x mm out c c th v0 H locs) {ii : Nat} (hii : ii + 7 ≤ Ln) {cells slots : Nat} (hcs : cells + 1100 ≤ 609960 ∧ slots + 14000 ≤ 7266223) {ls : Array Slot} (hl : lv_has ls 9 [(4, .int (nI ii)), (0, .ref bb), (1, .ref x), (2, .ref mm), (3, .ref out)]) (kk : KK p l e s m below meth co bb E Q x mm out ii cells slots) : W p l e room_1 s m #[Value.ref bb] below meth co H locs cells slots Q (F0 m 1806 ls []) := by
  obtain ⟨hx, hb, hml, hown, hC, hNc, hXs, hbl, hE0, hst, hLn⟩ := C0
  have hAb : ∀ q, bA E q → bA E q := fun _ h => h
  have hbb : ¬ bA E bb := by show ¬ E.2 0 ≤ bb; rw [hE0]; exact Nat.not_le.mpr hbl
  obtain ⟨ly, L, ad, ly', L', ad', hX, hM, hx0, hm0, hdj, hoL, hoM, hO, hob, hS⟩ := hT
  have hLb := hX.2.2.1
  have hLbM := hM.2.2.1
  have hz0 : ∀ q, H.size ≤ q → bA E q := fun q z => by show E.2 0 ≤ q; rw [hE0]; exact Nat.le_trans hS.1 z
  refine lv_aload_n hx hb dL_law_1806 rfl (lv_at hl 2 rfl) ?_
  have hMt := mX3_digest l hX
  rw [hx0] at hMt
  refine ro_VL (As := []) (h0 := x) (rest := []) (v := dgS c) hx hb hml hown hC hS hAb hMt kV_L_179 ⟨rfl, rfl⟩ ⟨Nat.le_of_ble_eq_true rfl, Nat.le_of_ble_eq_true rfl⟩ (by rw [← hx0]; exact hX.1.recv hC cX_0 rfl) rfl hl (Nat.le_of_ble_eq_true rfl) ⟨show cells + 0 ≤ 609960 by omega, show slots + 0 ≤ 7266223 by omega⟩ dL_law_1807 ?_
  refine lv_aload_n hx hb dL_law_1810 rfl (lv_at hl 3 rfl) ?_
  have hMt := mX7_digest l hM 
  rw [hm0] at hMt
  refine mu_VL (As := []) (h0 := mm) (rest := [.long (dgS c)]) (v := dgS c) hx hb hml hown hC hS hAb hMt (fun q h => h.elim (hLbM q) (hz0 q)) kV_L_183 ⟨rfl, rfl⟩ ⟨Nat.le_of_ble_eq_true rfl, Nat.le_of_ble_eq_true rfl⟩ (by rw [← hm0]; exact hM.1.recv hC cM_0 rfl) rfl hl (Nat.le_of_ble_eq_true rfl) ⟨show cells + 1032 ≤ 609960 by omega, show slots + 4128 ≤ 7266223 by omega⟩ dL_law_1811 (fun H locs hB hS1 hz hkk => ?_)
  have hT := lt_m hX hM hx0 hm0 hdj hoL hoM hO hob ⟨L', ly', ad', hB, hm0, fun q h => Or.inl h⟩ hkk hS1
  obtain ⟨ly, L, ad, ly', L', ad', hX, hM, hx0, hm0, hdj, hoL, hoM, hO, hob, hS⟩ := hT
  have hLb := hX.2.2.1
  have hLbM := hM.2.2.1
  have hz0 : ∀ q, H.size ≤ q → bA E q := fun q z => by show E.2 0 ≤ q; rw [hE0]; exact Nat.le_trans hS.1 z
  have hT : LT E s.heap x mm out _ _ _ _ H locs := ⟨ly, L, ad, ly', L', ad', hX, hM, hx0, hm0, hdj, hoL, hoM, hO, hob, hS⟩
  refine W.lcmp hx hb dL_law_1814 ?_
  rw [lg_self]
  refine lv_if_eq (tgt := 1820) hx hb dL_law_1815 (by decide) (fun _ => ?_) (fun c9 => absurd rfl c9)
  refine W.widen (k := cells + 1100) (n := slots + 14000) (by omega) (by omega) ?_
  exact kk _ _ _ _ _ _ hT (lv_sub hl [0, 1, 2, 3, 4] rfl)
end CAS
