section CAS
variable {p : Program} {l : Launch} {e : Env} {s : State} {m : MethodId} {below : List Frame} {meth : Method} {co : Code} {bb Ln : Nat} {xs : Nat → Int32} {E : En} {Q : State → Prop}
set_option maxHeartbeats 4000000 in
set_option maxRecDepth 100000 in
theorem lc_waive_g (C0 : LC p l s m co E bb Ln xs) {c : Cy} {th : Int32} {v0 : Int64} {H : Heap} {locs : List Loc} {x mm out : Nat} (hT : LT E s.heap x mm out c c th v0 H locs) {ii : Nat} (hii : ii + 7 ≤ Ln) {cells slots : Nat} (hcs : cells + 1100 ≤ 609960 ∧ slots + 14000 ≤ 7266223) {ls : Array Slot} (hl : lv_has ls 9 [(4, .int (nI ii)), (0, .ref bb), (1, .ref x), (2, .ref mm), (3, .ref out)]) (kk : KK p l e s m below meth co bb E Q x mm out ii cells slots) (j : Nat) (hq1 : xs (ii + 1) = nI j) (hj : j < c.R 10 2) : W p l e room_1 s m #[Value.ref bb] below meth co H locs cells slots Q (F0 m 786 ls []) := by
  obtain ⟨hx, hb, hml, hown, hC, hNc, hXs, hbl, hE0, hst, hLn⟩ := C0
  have hAb : ∀ q, bA E q → bA E q := fun _ h => h
  have hbb : ¬ bA E bb := by show ¬ E.2 0 ≤ bb; rw [hE0]; exact Nat.not_le.mpr hbl
  obtain ⟨ly, L, ad, ly', L', ad', hX, hM, hx0, hm0, hdj, hoL, hoM, hO, hob, hS⟩ := hT
  have hLb := hX.2.2.1
  have hLbM := hM.2.2.1
  have hz0 : ∀ q, H.size ≤ q → bA E q := fun q z => by show E.2 0 ≤ q; rw [hE0]; exact Nat.le_trans hS.1 z
  refine lv_aload_n hx hb dL_law_786 rfl (lv_at hl 2 rfl) ?_
  refine lv_aload_n hx hb dL_law_787 rfl (lv_at hl 1 rfl) ?_
  refine lv_iload hx hb dL_law_788 (lv_at hl 0 rfl) ?_
  refine lv_iconstN hx hb 1 dL_law_790 (by decide) ?_
  refine lv_iaddN hx hb dL_law_791 ?_
  refine lw_sld hx hb hXs hbl hbb hS (show ii + 1 < Ln by omega) hLn dL_law_792 ?_
  rw [hq1]
  refine lv_aload_n hx hb dL_law_793 rfl (lv_at hl 4 rfl) ?_
  have hMt := mL_waive_g l hX hO hoL hob j hj
  rw [hx0] at hMt
  refine lw_S (As := [.ref x, .int (nI j), .ref out]) (rest := []) hx hb hml hown hC hNc hS hAb hMt (fun q h => h.elim (hLb q) (fun h => h.elim (fun h => by rw [h]; exact hob) (hz0 q))) kW_L_126 ⟨rfl, rfl⟩ ⟨Nat.le_of_ble_eq_true rfl, Nat.le_of_ble_eq_true rfl⟩ rfl hl (Nat.le_of_ble_eq_true rfl) ⟨show cells + 0 ≤ 609960 by omega, show slots + 0 ≤ 7266223 by omega⟩ dL_law_794 (fun H locs hB hS1 hz hkk => ?_)
  have hT := lt_x hX hM hx0 hm0 hdj hoL hoM hO hob hB hkk hS1
  obtain ⟨ly, L, ad, ly', L', ad', hX, hM, hx0, hm0, hdj, hoL, hoM, hO, hob, hS⟩ := hT
  have hLb := hX.2.2.1
  have hLbM := hM.2.2.1
  have hz0 : ∀ q, H.size ≤ q → bA E q := fun q z => by show E.2 0 ≤ q; rw [hE0]; exact Nat.le_trans hS.1 z
  refine lv_istore (lv' := [(5, .int (nI 0)), (4, .int (nI ii)), (0, .ref bb), (1, .ref x), (2, .ref mm), (3, .ref out)]) hx hb dL_law_797 hl (by decide) rfl (fun ls hl => ?_)
  refine lv_aload_n hx hb dL_law_799 rfl (lv_at hl 4 rfl) ?_
  refine lv_aload_n hx hb dL_law_800 rfl (lv_at hl 2 rfl) ?_
  refine lv_iload hx hb dL_law_801 (lv_at hl 1 rfl) ?_
  refine lv_iconstN hx hb 1 dL_law_803 (by decide) ?_
  refine lv_iaddN hx hb dL_law_804 ?_
  refine lw_sld hx hb hXs hbl hbb hS (show ii + 1 < Ln by omega) hLn dL_law_805 ?_
  rw [hq1]
  have hMt := mX7_waive_g l hM j hj
  rw [hm0] at hMt
  refine mu_V (As := [.int (nI j)]) (h0 := mm) (rest := []) (v := bI (!c.B 2 j)) hx hb hml hown hC hS hAb hMt (fun q h => h.elim (hLbM q) (hz0 q)) kV_L_128 ⟨rfl, rfl⟩ ⟨Nat.le_of_ble_eq_true rfl, Nat.le_of_ble_eq_true rfl⟩ (by rw [← hm0]; exact hM.1.recv hC cM_0 rfl) rfl hl (Nat.le_of_ble_eq_true rfl) ⟨show cells + 0 ≤ 609960 by omega, show slots + 0 ≤ 7266223 by omega⟩ dL_law_806 (fun H locs hB hS1 hz hkk => ?_)
  have hT := lt_m hX hM hx0 hm0 hdj hoL hoM hO hob ⟨L', ly', ad', hB, hm0, fun q h => Or.inl h⟩ hkk hS1
  obtain ⟨ly, L, ad, ly', L', ad', hX, hM, hx0, hm0, hdj, hoL, hoM, hO, hob, hS⟩ := hT
  have hLb := hX.2.2.1
  have hLbM := hM.2.2.1
  have hz0 : ∀ q, H.size ≤ q → bA E q := fun q z => by show E.2 0 ≤ q; rw [hE0]; exact Nat.le_trans hS.1 z
  refine lv_istore (lv' := [(6, .int (bI (!c.B 2 j))), (5, .int (nI 0)), (4, .int (nI ii)), (0, .ref bb), (1, .ref x), (2, .ref mm), (3, .ref out)]) hx hb dL_law_809 hl (by decide) rfl (fun ls hl => ?_)
  refine lv_aload_n hx hb dL_law_811 rfl (lv_at hl 5 rfl) ?_
  have hMt := mX7_thrown l hM
  rw [hm0] at hMt
  refine ro_V (As := []) (h0 := mm) (rest := []) (v := nI 0) hx hb hml hown hC hS hAb hMt kV_L_98 ⟨rfl, rfl⟩ ⟨Nat.le_of_ble_eq_true rfl, Nat.le_of_ble_eq_true rfl⟩ (by rw [← hm0]; exact hM.1.recv hC cM_0 rfl) rfl hl (Nat.le_of_ble_eq_true rfl) ⟨show cells + 0 ≤ 609960 by omega, show slots + 0 ≤ 7266223 by omega⟩ dL_law_812 ?_
  refine lv_iload hx hb dL_law_815 (lv_at hl 1 rfl) ?_
  refine lv_icmp_eq (tgt := 822) hx hb dL_law_817 (by decide) (fun _ => ?_) (fun c9 => absurd rfl c9)
  refine lv_iload hx hb dL_law_822 (lv_at hl 1 rfl) ?_
  have hT : LT E s.heap x mm out _ _ _ _ H locs := ⟨ly, L, ad, ly', L', ad', hX, hM, hx0, hm0, hdj, hoL, hoM, hO, hob, hS⟩
  refine lv_if_ne (tgt := 846) hx hb dL_law_824 (by decide) (fun c9 => absurd (by decide) c9) (fun _ => ?_)
  refine lv_aload_n hx hb dL_law_827 rfl (lv_at hl 6 rfl) ?_
  refine lv_iconstN hx hb 0 dL_law_828 (by decide) ?_
  refine lw_lald hx hb hC hO dL_law_829 ?_
  refine lv_iload hx hb dL_law_830 (lv_at hl 0 rfl) ?_
  refine lv_bif_eq (tgt := 839) hx hb dL_law_832 (by decide) (fun c_7 => ?_) (fun c_7 => ?_)
  · skip
    refine lv_lconst (v := 0) hx hb dL_law_839 rfl ?_
    refine W.lcmp hx hb dL_law_840 ?_
    rw [show bL (!c.B 2 j) = 0 by rw [c_7]; rfl, lg_self]
    refine lv_if_eq (tgt := 846) hx hb dL_law_841 (by decide) (fun _ => ?_) (fun c9 => absurd rfl c9)
    refine lv_goto (tgt := 1820) hx hb dL_law_846 (by decide) ?_
    refine W.widen (k := cells + 1100) (n := slots + 14000) (by omega) (by omega) ?_
    exact kk _ _ _ _ _ _ hT (lv_sub hl [2, 3, 4, 5, 6] rfl)
  · skip
    refine lv_lconst (v := 1) hx hb dL_law_835 rfl ?_
    refine lv_goto (tgt := 840) hx hb dL_law_836 (by decide) ?_
    refine W.lcmp hx hb dL_law_840 ?_
    rw [show bL (!c.B 2 j) = 1 by rw [c_7]; rfl, lg_self]
    refine lv_if_eq (tgt := 846) hx hb dL_law_841 (by decide) (fun _ => ?_) (fun c9 => absurd rfl c9)
    refine lv_goto (tgt := 1820) hx hb dL_law_846 (by decide) ?_
    refine W.widen (k := cells + 1100) (n := slots + 14000) (by omega) (by omega) ?_
    exact kk _ _ _ _ _ _ hT (lv_sub hl [2, 3, 4, 5, 6] rfl)
set_option maxHeartbeats 4000000 in
set_option maxRecDepth 100000 in
theorem lc_waive_b1 (C0 : LC p l s m co E bb Ln xs) {c : Cy} {th : Int32} {v0 : Int64} {H : Heap} {locs : List Loc} {x mm out : Nat} (hT : LT E s.heap x mm out c c th v0 H locs) {ii : Nat} (hii : ii + 7 ≤ Ln) {cells slots : Nat} (hcs : cells + 1100 ≤ 609960 ∧ slots + 14000 ≤ 7266223) {ls : Array Slot} (hl : lv_has ls 9 [(4, .int (nI ii)), (0, .ref bb), (1, .ref x), (2, .ref mm), (3, .ref out)]) (kk : KK p l e s m below meth co bb E Q x mm out ii cells slots) (v : Int32) (hq1 : xs (ii + 1) = v) (hv : isInS v (nI 0) (nI (c.R 10 2) - nI 1) = false) : W p l e room_1 s m #[Value.ref bb] below meth co H locs cells slots Q (F0 m 786 ls []) := by
  obtain ⟨hx, hb, hml, hown, hC, hNc, hXs, hbl, hE0, hst, hLn⟩ := C0
  have hAb : ∀ q, bA E q → bA E q := fun _ h => h
  have hbb : ¬ bA E bb := by show ¬ E.2 0 ≤ bb; rw [hE0]; exact Nat.not_le.mpr hbl
  obtain ⟨ly, L, ad, ly', L', ad', hX, hM, hx0, hm0, hdj, hoL, hoM, hO, hob, hS⟩ := hT
  have hLb := hX.2.2.1
  have hLbM := hM.2.2.1
  have hz0 : ∀ q, H.size ≤ q → bA E q := fun q z => by show E.2 0 ≤ q; rw [hE0]; exact Nat.le_trans hS.1 z
  refine lv_aload_n hx hb dL_law_786 rfl (lv_at hl 2 rfl) ?_
  refine lv_aload_n hx hb dL_law_787 rfl (lv_at hl 1 rfl) ?_
  refine lv_iload hx hb dL_law_788 (lv_at hl 0 rfl) ?_
  refine lv_iconstN hx hb 1 dL_law_790 (by decide) ?_
  refine lv_iaddN hx hb dL_law_791 ?_
  refine lw_sld hx hb hXs hbl hbb hS (show ii + 1 < Ln by omega) hLn dL_law_792 ?_
  rw [hq1]
  refine lv_aload_n hx hb dL_law_793 rfl (lv_at hl 4 rfl) ?_
  have hMt := mL_waive_b1 l hst hX hO hoL hob v hv
  rw [hx0] at hMt
  refine lw_S (As := [.ref x, .int v, .ref out]) (rest := []) hx hb hml hown hC hNc hS hAb hMt (fun q h => h.elim (hLb q) (fun h => h.elim (fun h => by rw [h]; exact hob) (hz0 q))) kW_L_126 ⟨rfl, rfl⟩ ⟨Nat.le_of_ble_eq_true rfl, Nat.le_of_ble_eq_true rfl⟩ rfl hl (Nat.le_of_ble_eq_true rfl) ⟨show cells + 1 ≤ 609960 by omega, show slots + 6 ≤ 7266223 by omega⟩ dL_law_794 (fun H locs hB hS1 hz hkk => ?_)
  have hT := lt_x hX hM hx0 hm0 hdj hoL hoM hO hob hB hkk hS1
  obtain ⟨ly, L, ad, ly', L', ad', hX, hM, hx0, hm0, hdj, hoL, hoM, hO, hob, hS⟩ := hT
  have hLb := hX.2.2.1
  have hLbM := hM.2.2.1
  have hz0 : ∀ q, H.size ≤ q → bA E q := fun q z => by show E.2 0 ≤ q; rw [hE0]; exact Nat.le_trans hS.1 z
  refine lv_istore (lv' := [(5, .int (nI 1)), (4, .int (nI ii)), (0, .ref bb), (1, .ref x), (2, .ref mm), (3, .ref out)]) hx hb dL_law_797 hl (by decide) rfl (fun ls hl => ?_)
  refine lv_aload_n hx hb dL_law_799 rfl (lv_at hl 4 rfl) ?_
  refine lv_aload_n hx hb dL_law_800 rfl (lv_at hl 2 rfl) ?_
  refine lv_iload hx hb dL_law_801 (lv_at hl 1 rfl) ?_
  refine lv_iconstN hx hb 1 dL_law_803 (by decide) ?_
  refine lv_iaddN hx hb dL_law_804 ?_
  refine lw_sld hx hb hXs hbl hbb hS (show ii + 1 < Ln by omega) hLn dL_law_805 ?_
  rw [hq1]
  have hMt := mX7_waive_b1 l hM v hv
  rw [hm0] at hMt
  refine mu_V (As := [.int v]) (h0 := mm) (rest := []) (v := bI (false)) hx hb hml hown hC hS hAb hMt (fun q h => h.elim (hLbM q) (hz0 q)) kV_L_128 ⟨rfl, rfl⟩ ⟨Nat.le_of_ble_eq_true rfl, Nat.le_of_ble_eq_true rfl⟩ (by rw [← hm0]; exact hM.1.recv hC cM_0 rfl) rfl hl (Nat.le_of_ble_eq_true rfl) ⟨show cells + 1 + 0 ≤ 609960 by omega, show slots + 6 + 0 ≤ 7266223 by omega⟩ dL_law_806 (fun H locs hB hS1 hz hkk => ?_)
  have hT := lt_m hX hM hx0 hm0 hdj hoL hoM hO hob ⟨L', ly', ad', hB, hm0, fun q h => Or.inl h⟩ hkk hS1
  obtain ⟨ly, L, ad, ly', L', ad', hX, hM, hx0, hm0, hdj, hoL, hoM, hO, hob, hS⟩ := hT
  have hLb := hX.2.2.1
  have hLbM := hM.2.2.1
  have hz0 : ∀ q, H.size ≤ q → bA E q := fun q z => by show E.2 0 ≤ q; rw [hE0]; exact Nat.le_trans hS.1 z
  refine lv_istore (lv' := [(6, .int (bI (false))), (5, .int (nI 1)), (4, .int (nI ii)), (0, .ref bb), (1, .ref x), (2, .ref mm), (3, .ref out)]) hx hb dL_law_809 hl (by decide) rfl (fun ls hl => ?_)
  refine lv_aload_n hx hb dL_law_811 rfl (lv_at hl 5 rfl) ?_
  have hMt := mX7_thrown l hM
  rw [hm0] at hMt
  refine ro_V (As := []) (h0 := mm) (rest := []) (v := nI 1) hx hb hml hown hC hS hAb hMt kV_L_98 ⟨rfl, rfl⟩ ⟨Nat.le_of_ble_eq_true rfl, Nat.le_of_ble_eq_true rfl⟩ (by rw [← hm0]; exact hM.1.recv hC cM_0 rfl) rfl hl (Nat.le_of_ble_eq_true rfl) ⟨show cells + 1 + 0 ≤ 609960 by omega, show slots + 6 + 0 ≤ 7266223 by omega⟩ dL_law_812 ?_
  refine lv_iload hx hb dL_law_815 (lv_at hl 1 rfl) ?_
  refine lv_icmp_eq (tgt := 822) hx hb dL_law_817 (by decide) (fun _ => ?_) (fun c9 => absurd rfl c9)
  refine lv_iload hx hb dL_law_822 (lv_at hl 1 rfl) ?_
  have hT : LT E s.heap x mm out _ _ _ _ H locs := ⟨ly, L, ad, ly', L', ad', hX, hM, hx0, hm0, hdj, hoL, hoM, hO, hob, hS⟩
  refine lv_if_ne (tgt := 846) hx hb dL_law_824 (by decide) (fun _ => ?_) (fun c9 => absurd c9 (by decide))
  refine lv_goto (tgt := 1820) hx hb dL_law_846 (by decide) ?_
  refine W.widen (k := cells + 1100) (n := slots + 14000) (by omega) (by omega) ?_
  exact kk _ _ _ _ _ _ hT (lv_sub hl [2, 3, 4, 5, 6] rfl)
set_option maxHeartbeats 4000000 in
set_option maxRecDepth 100000 in
theorem lc_remember_g (C0 : LC p l s m co E bb Ln xs) {c : Cy} {th : Int32} {v0 : Int64} {H : Heap} {locs : List Loc} {x mm out : Nat} (hT : LT E s.heap x mm out c c th v0 H locs) {ii : Nat} (hii : ii + 7 ≤ Ln) {cells slots : Nat} (hcs : cells + 1100 ≤ 609960 ∧ slots + 14000 ≤ 7266223) {ls : Array Slot} (hl : lv_has ls 9 [(4, .int (nI ii)), (0, .ref bb), (1, .ref x), (2, .ref mm), (3, .ref out)]) (kk : KK p l e s m below meth co bb E Q x mm out ii cells slots) (j : Nat) (hq1 : xs (ii + 1) = nI j) (hj : j < c.R 10 2) : W p l e room_1 s m #[Value.ref bb] below meth co H locs cells slots Q (F0 m 849 ls []) := by
  obtain ⟨hx, hb, hml, hown, hC, hNc, hXs, hbl, hE0, hst, hLn⟩ := C0
  have hAb : ∀ q, bA E q → bA E q := fun _ h => h
  have hbb : ¬ bA E bb := by show ¬ E.2 0 ≤ bb; rw [hE0]; exact Nat.not_le.mpr hbl
  obtain ⟨ly, L, ad, ly', L', ad', hX, hM, hx0, hm0, hdj, hoL, hoM, hO, hob, hS⟩ := hT
  have hLb := hX.2.2.1
  have hLbM := hM.2.2.1
  have hz0 : ∀ q, H.size ≤ q → bA E q := fun q z => by show E.2 0 ≤ q; rw [hE0]; exact Nat.le_trans hS.1 z
  refine lv_aload_n hx hb dL_law_849 rfl (lv_at hl 2 rfl) ?_
  refine lv_aload_n hx hb dL_law_850 rfl (lv_at hl 1 rfl) ?_
  refine lv_iload hx hb dL_law_851 (lv_at hl 0 rfl) ?_
  refine lv_iconstN hx hb 1 dL_law_853 (by decide) ?_
  refine lv_iaddN hx hb dL_law_854 ?_
  refine lw_sld hx hb hXs hbl hbb hS (show ii + 1 < Ln by omega) hLn dL_law_855 ?_
  rw [hq1]
  refine lv_aload_n hx hb dL_law_856 rfl (lv_at hl 4 rfl) ?_
  have hMt := mL_remember_g l hX hO hoL hob j hj
  rw [hx0] at hMt
  refine lw_S (As := [.ref x, .int (nI j), .ref out]) (rest := []) hx hb hml hown hC hNc hS hAb hMt (fun q h => h.elim (hLb q) (fun h => h.elim (fun h => by rw [h]; exact hob) (hz0 q))) kW_L_129 ⟨rfl, rfl⟩ ⟨Nat.le_of_ble_eq_true rfl, Nat.le_of_ble_eq_true rfl⟩ rfl hl (Nat.le_of_ble_eq_true rfl) ⟨show cells + 0 ≤ 609960 by omega, show slots + 0 ≤ 7266223 by omega⟩ dL_law_857 (fun H locs hB hS1 hz hkk => ?_)
  have hT := lt_x hX hM hx0 hm0 hdj hoL hoM hO hob hB hkk hS1
  obtain ⟨ly, L, ad, ly', L', ad', hX, hM, hx0, hm0, hdj, hoL, hoM, hO, hob, hS⟩ := hT
  have hLb := hX.2.2.1
  have hLbM := hM.2.2.1
  have hz0 : ∀ q, H.size ≤ q → bA E q := fun q z => by show E.2 0 ≤ q; rw [hE0]; exact Nat.le_trans hS.1 z
  refine lv_istore (lv' := [(5, .int (nI 0)), (4, .int (nI ii)), (0, .ref bb), (1, .ref x), (2, .ref mm), (3, .ref out)]) hx hb dL_law_860 hl (by decide) rfl (fun ls hl => ?_)
  refine lv_aload_n hx hb dL_law_862 rfl (lv_at hl 4 rfl) ?_
  refine lv_aload_n hx hb dL_law_863 rfl (lv_at hl 2 rfl) ?_
  refine lv_iload hx hb dL_law_864 (lv_at hl 1 rfl) ?_
  refine lv_iconstN hx hb 1 dL_law_866 (by decide) ?_
  refine lv_iaddN hx hb dL_law_867 ?_
  refine lw_sld hx hb hXs hbl hbb hS (show ii + 1 < Ln by omega) hLn dL_law_868 ?_
  rw [hq1]
  have hMt := mX7_remember_g l hM j hj
  rw [hm0] at hMt
  refine mu_V (As := [.int (nI j)]) (h0 := mm) (rest := []) (v := bI (!c.B 3 j)) hx hb hml hown hC hS hAb hMt (fun q h => h.elim (hLbM q) (hz0 q)) kV_L_131 ⟨rfl, rfl⟩ ⟨Nat.le_of_ble_eq_true rfl, Nat.le_of_ble_eq_true rfl⟩ (by rw [← hm0]; exact hM.1.recv hC cM_0 rfl) rfl hl (Nat.le_of_ble_eq_true rfl) ⟨show cells + 0 ≤ 609960 by omega, show slots + 0 ≤ 7266223 by omega⟩ dL_law_869 (fun H locs hB hS1 hz hkk => ?_)
  have hT := lt_m hX hM hx0 hm0 hdj hoL hoM hO hob ⟨L', ly', ad', hB, hm0, fun q h => Or.inl h⟩ hkk hS1
  obtain ⟨ly, L, ad, ly', L', ad', hX, hM, hx0, hm0, hdj, hoL, hoM, hO, hob, hS⟩ := hT
  have hLb := hX.2.2.1
  have hLbM := hM.2.2.1
  have hz0 : ∀ q, H.size ≤ q → bA E q := fun q z => by show E.2 0 ≤ q; rw [hE0]; exact Nat.le_trans hS.1 z
  refine lv_istore (lv' := [(6, .int (bI (!c.B 3 j))), (5, .int (nI 0)), (4, .int (nI ii)), (0, .ref bb), (1, .ref x), (2, .ref mm), (3, .ref out)]) hx hb dL_law_872 hl (by decide) rfl (fun ls hl => ?_)
  refine lv_aload_n hx hb dL_law_874 rfl (lv_at hl 5 rfl) ?_
  have hMt := mX7_thrown l hM
  rw [hm0] at hMt
  refine ro_V (As := []) (h0 := mm) (rest := []) (v := nI 0) hx hb hml hown hC hS hAb hMt kV_L_98 ⟨rfl, rfl⟩ ⟨Nat.le_of_ble_eq_true rfl, Nat.le_of_ble_eq_true rfl⟩ (by rw [← hm0]; exact hM.1.recv hC cM_0 rfl) rfl hl (Nat.le_of_ble_eq_true rfl) ⟨show cells + 0 ≤ 609960 by omega, show slots + 0 ≤ 7266223 by omega⟩ dL_law_875 ?_
  refine lv_iload hx hb dL_law_878 (lv_at hl 1 rfl) ?_
  refine lv_icmp_eq (tgt := 885) hx hb dL_law_880 (by decide) (fun _ => ?_) (fun c9 => absurd rfl c9)
  refine lv_iload hx hb dL_law_885 (lv_at hl 1 rfl) ?_
  have hT : LT E s.heap x mm out _ _ _ _ H locs := ⟨ly, L, ad, ly', L', ad', hX, hM, hx0, hm0, hdj, hoL, hoM, hO, hob, hS⟩
  refine lv_if_ne (tgt := 909) hx hb dL_law_887 (by decide) (fun c9 => absurd (by decide) c9) (fun _ => ?_)
  refine lv_aload_n hx hb dL_law_890 rfl (lv_at hl 6 rfl) ?_
  refine lv_iconstN hx hb 0 dL_law_891 (by decide) ?_
  refine lw_lald hx hb hC hO dL_law_892 ?_
  refine lv_iload hx hb dL_law_893 (lv_at hl 0 rfl) ?_
  refine lv_bif_eq (tgt := 902) hx hb dL_law_895 (by decide) (fun c_7 => ?_) (fun c_7 => ?_)
  · skip
    refine lv_lconst (v := 0) hx hb dL_law_902 rfl ?_
    refine W.lcmp hx hb dL_law_903 ?_
    rw [show bL (!c.B 3 j) = 0 by rw [c_7]; rfl, lg_self]
    refine lv_if_eq (tgt := 909) hx hb dL_law_904 (by decide) (fun _ => ?_) (fun c9 => absurd rfl c9)
    refine lv_goto (tgt := 1820) hx hb dL_law_909 (by decide) ?_
    refine W.widen (k := cells + 1100) (n := slots + 14000) (by omega) (by omega) ?_
    exact kk _ _ _ _ _ _ hT (lv_sub hl [2, 3, 4, 5, 6] rfl)
  · skip
    refine lv_lconst (v := 1) hx hb dL_law_898 rfl ?_
    refine lv_goto (tgt := 903) hx hb dL_law_899 (by decide) ?_
    refine W.lcmp hx hb dL_law_903 ?_
    rw [show bL (!c.B 3 j) = 1 by rw [c_7]; rfl, lg_self]
    refine lv_if_eq (tgt := 909) hx hb dL_law_904 (by decide) (fun _ => ?_) (fun c9 => absurd rfl c9)
    refine lv_goto (tgt := 1820) hx hb dL_law_909 (by decide) ?_
    refine W.widen (k := cells + 1100) (n := slots + 14000) (by omega) (by omega) ?_
    exact kk _ _ _ _ _ _ hT (lv_sub hl [2, 3, 4, 5, 6] rfl)
set_option maxHeartbeats 4000000 in
set_option maxRecDepth 100000 in
theorem lc_remember_b1 (C0 : LC p l s m co E bb Ln xs) {c : Cy} {th : Int32} {v0 : Int64} {H : Heap} {locs : List Loc} {x mm out : Nat} (hT : LT E s.heap x mm out c c th v0 H locs) {ii : Nat} (hii : ii + 7 ≤ Ln) {cells slots : Nat} (hcs : cells + 1100 ≤ 609960 ∧ slots + 14000 ≤ 7266223) {ls : Array Slot} (hl : lv_has ls 9 [(4, .int (nI ii)), (0, .ref bb), (1, .ref x), (2, .ref mm), (3, .ref out)]) (kk : KK p l e s m below meth co bb E Q x mm out ii cells slots) (v : Int32) (hq1 : xs (ii + 1) = v) (hv : isInS v (nI 0) (nI (c.R 10 2) - nI 1) = false) : W p l e room_1 s m #[Value.ref bb] below meth co H locs cells slots Q (F0 m 849 ls []) := by
  obtain ⟨hx, hb, hml, hown, hC, hNc, hXs, hbl, hE0, hst, hLn⟩ := C0
  have hAb : ∀ q, bA E q → bA E q := fun _ h => h
  have hbb : ¬ bA E bb := by show ¬ E.2 0 ≤ bb; rw [hE0]; exact Nat.not_le.mpr hbl
  obtain ⟨ly, L, ad, ly', L', ad', hX, hM, hx0, hm0, hdj, hoL, hoM, hO, hob, hS⟩ := hT
  have hLb := hX.2.2.1
  have hLbM := hM.2.2.1
  have hz0 : ∀ q, H.size ≤ q → bA E q := fun q z => by show E.2 0 ≤ q; rw [hE0]; exact Nat.le_trans hS.1 z
  refine lv_aload_n hx hb dL_law_849 rfl (lv_at hl 2 rfl) ?_
  refine lv_aload_n hx hb dL_law_850 rfl (lv_at hl 1 rfl) ?_
  refine lv_iload hx hb dL_law_851 (lv_at hl 0 rfl) ?_
  refine lv_iconstN hx hb 1 dL_law_853 (by decide) ?_
  refine lv_iaddN hx hb dL_law_854 ?_
  refine lw_sld hx hb hXs hbl hbb hS (show ii + 1 < Ln by omega) hLn dL_law_855 ?_
  rw [hq1]
  refine lv_aload_n hx hb dL_law_856 rfl (lv_at hl 4 rfl) ?_
  have hMt := mL_remember_b1 l hst hX hO hoL hob v hv
  rw [hx0] at hMt
  refine lw_S (As := [.ref x, .int v, .ref out]) (rest := []) hx hb hml hown hC hNc hS hAb hMt (fun q h => h.elim (hLb q) (fun h => h.elim (fun h => by rw [h]; exact hob) (hz0 q))) kW_L_129 ⟨rfl, rfl⟩ ⟨Nat.le_of_ble_eq_true rfl, Nat.le_of_ble_eq_true rfl⟩ rfl hl (Nat.le_of_ble_eq_true rfl) ⟨show cells + 1 ≤ 609960 by omega, show slots + 6 ≤ 7266223 by omega⟩ dL_law_857 (fun H locs hB hS1 hz hkk => ?_)
  have hT := lt_x hX hM hx0 hm0 hdj hoL hoM hO hob hB hkk hS1
  obtain ⟨ly, L, ad, ly', L', ad', hX, hM, hx0, hm0, hdj, hoL, hoM, hO, hob, hS⟩ := hT
  have hLb := hX.2.2.1
  have hLbM := hM.2.2.1
  have hz0 : ∀ q, H.size ≤ q → bA E q := fun q z => by show E.2 0 ≤ q; rw [hE0]; exact Nat.le_trans hS.1 z
  refine lv_istore (lv' := [(5, .int (nI 1)), (4, .int (nI ii)), (0, .ref bb), (1, .ref x), (2, .ref mm), (3, .ref out)]) hx hb dL_law_860 hl (by decide) rfl (fun ls hl => ?_)
  refine lv_aload_n hx hb dL_law_862 rfl (lv_at hl 4 rfl) ?_
  refine lv_aload_n hx hb dL_law_863 rfl (lv_at hl 2 rfl) ?_
  refine lv_iload hx hb dL_law_864 (lv_at hl 1 rfl) ?_
  refine lv_iconstN hx hb 1 dL_law_866 (by decide) ?_
  refine lv_iaddN hx hb dL_law_867 ?_
  refine lw_sld hx hb hXs hbl hbb hS (show ii + 1 < Ln by omega) hLn dL_law_868 ?_
  rw [hq1]
  have hMt := mX7_remember_b1 l hM v hv
  rw [hm0] at hMt
  refine mu_V (As := [.int v]) (h0 := mm) (rest := []) (v := bI (false)) hx hb hml hown hC hS hAb hMt (fun q h => h.elim (hLbM q) (hz0 q)) kV_L_131 ⟨rfl, rfl⟩ ⟨Nat.le_of_ble_eq_true rfl, Nat.le_of_ble_eq_true rfl⟩ (by rw [← hm0]; exact hM.1.recv hC cM_0 rfl) rfl hl (Nat.le_of_ble_eq_true rfl) ⟨show cells + 1 + 0 ≤ 609960 by omega, show slots + 6 + 0 ≤ 7266223 by omega⟩ dL_law_869 (fun H locs hB hS1 hz hkk => ?_)
  have hT := lt_m hX hM hx0 hm0 hdj hoL hoM hO hob ⟨L', ly', ad', hB, hm0, fun q h => Or.inl h⟩ hkk hS1
  obtain ⟨ly, L, ad, ly', L', ad', hX, hM, hx0, hm0, hdj, hoL, hoM, hO, hob, hS⟩ := hT
  have hLb := hX.2.2.1
  have hLbM := hM.2.2.1
  have hz0 : ∀ q, H.size ≤ q → bA E q := fun q z => by show E.2 0 ≤ q; rw [hE0]; exact Nat.le_trans hS.1 z
  refine lv_istore (lv' := [(6, .int (bI (false))), (5, .int (nI 1)), (4, .int (nI ii)), (0, .ref bb), (1, .ref x), (2, .ref mm), (3, .ref out)]) hx hb dL_law_872 hl (by decide) rfl (fun ls hl => ?_)
  refine lv_aload_n hx hb dL_law_874 rfl (lv_at hl 5 rfl) ?_
  have hMt := mX7_thrown l hM
  rw [hm0] at hMt
  refine ro_V (As := []) (h0 := mm) (rest := []) (v := nI 1) hx hb hml hown hC hS hAb hMt kV_L_98 ⟨rfl, rfl⟩ ⟨Nat.le_of_ble_eq_true rfl, Nat.le_of_ble_eq_true rfl⟩ (by rw [← hm0]; exact hM.1.recv hC cM_0 rfl) rfl hl (Nat.le_of_ble_eq_true rfl) ⟨show cells + 1 + 0 ≤ 609960 by omega, show slots + 6 + 0 ≤ 7266223 by omega⟩ dL_law_875 ?_
  refine lv_iload hx hb dL_law_878 (lv_at hl 1 rfl) ?_
  refine lv_icmp_eq (tgt := 885) hx hb dL_law_880 (by decide) (fun _ => ?_) (fun c9 => absurd rfl c9)
  refine lv_iload hx hb dL_law_885 (lv_at hl 1 rfl) ?_
  have hT : LT E s.heap x mm out _ _ _ _ H locs := ⟨ly, L, ad, ly', L', ad', hX, hM, hx0, hm0, hdj, hoL, hoM, hO, hob, hS⟩
  refine lv_if_ne (tgt := 909) hx hb dL_law_887 (by decide) (fun _ => ?_) (fun c9 => absurd c9 (by decide))
  refine lv_goto (tgt := 1820) hx hb dL_law_909 (by decide) ?_
  refine W.widen (k := cells + 1100) (n := slots + 14000) (by omega) (by omega) ?_
  exact kk _ _ _ _ _ _ hT (lv_sub hl [2, 3, 4, 5, 6] rfl)
set_option maxHeartbeats 4000000 in
set_option maxRecDepth 100000 in
theorem lc_pay_g (C0 : LC p l s m co E bb Ln xs) {c : Cy} {th : Int32} {v0 : Int64} {H : Heap} {locs : List Loc} {x mm out : Nat} (hT : LT E s.heap x mm out c c th v0 H locs) {ii : Nat} (hii : ii + 7 ≤ Ln) {cells slots : Nat} (hcs : cells + 1100 ≤ 609960 ∧ slots + 14000 ≤ 7266223) {ls : Array Slot} (hl : lv_has ls 9 [(4, .int (nI ii)), (0, .ref bb), (1, .ref x), (2, .ref mm), (3, .ref out)]) (kk : KK p l e s m below meth co bb E Q x mm out ii cells slots) (h : Nat) (hq1 : xs (ii + 1) = nI h) (hh : h < c.R 10 1) : W p l e room_1 s m #[Value.ref bb] below meth co H locs cells slots Q (F0 m 912 ls []) := by
  obtain ⟨hx, hb, hml, hown, hC, hNc, hXs, hbl, hE0, hst, hLn⟩ := C0
  have hAb : ∀ q, bA E q → bA E q := fun _ h => h
  have hbb : ¬ bA E bb := by show ¬ E.2 0 ≤ bb; rw [hE0]; exact Nat.not_le.mpr hbl
  obtain ⟨ly, L, ad, ly', L', ad', hX, hM, hx0, hm0, hdj, hoL, hoM, hO, hob, hS⟩ := hT
  have hLb := hX.2.2.1
  have hLbM := hM.2.2.1
  have hz0 : ∀ q, H.size ≤ q → bA E q := fun q z => by show E.2 0 ≤ q; rw [hE0]; exact Nat.le_trans hS.1 z
  refine lv_aload_n hx hb dL_law_912 rfl (lv_at hl 2 rfl) ?_
  refine lv_aload_n hx hb dL_law_913 rfl (lv_at hl 1 rfl) ?_
  refine lv_iload hx hb dL_law_914 (lv_at hl 0 rfl) ?_
  refine lv_iconstN hx hb 1 dL_law_916 (by decide) ?_
  refine lv_iaddN hx hb dL_law_917 ?_
  refine lw_sld hx hb hXs hbl hbb hS (show ii + 1 < Ln by omega) hLn dL_law_918 ?_
  rw [hq1]
  refine lv_aload_n hx hb dL_law_919 rfl (lv_at hl 4 rfl) ?_
  have hMt := mL_pay_g l hX hO hoL hob h hh
  rw [hx0] at hMt
  refine lw_S (As := [.ref x, .int (nI h), .ref out]) (rest := []) hx hb hml hown hC hNc hS hAb hMt (fun q h => h.elim (hLb q) (fun h => h.elim (fun h => by rw [h]; exact hob) (hz0 q))) kW_L_132 ⟨rfl, rfl⟩ ⟨Nat.le_of_ble_eq_true rfl, Nat.le_of_ble_eq_true rfl⟩ rfl hl (Nat.le_of_ble_eq_true rfl) ⟨show cells + 0 ≤ 609960 by omega, show slots + 0 ≤ 7266223 by omega⟩ dL_law_920 (fun H locs hB hS1 hz hkk => ?_)
  have hT := lt_x hX hM hx0 hm0 hdj hoL hoM hO hob hB hkk hS1
  obtain ⟨ly, L, ad, ly', L', ad', hX, hM, hx0, hm0, hdj, hoL, hoM, hO, hob, hS⟩ := hT
  have hLb := hX.2.2.1
  have hLbM := hM.2.2.1
  have hz0 : ∀ q, H.size ≤ q → bA E q := fun q z => by show E.2 0 ≤ q; rw [hE0]; exact Nat.le_trans hS.1 z
  refine lv_istore (lv' := [(5, .int (nI 0)), (4, .int (nI ii)), (0, .ref bb), (1, .ref x), (2, .ref mm), (3, .ref out)]) hx hb dL_law_923 hl (by decide) rfl (fun ls hl => ?_)
  refine lv_aload_n hx hb dL_law_925 rfl (lv_at hl 4 rfl) ?_
  refine lv_aload_n hx hb dL_law_926 rfl (lv_at hl 2 rfl) ?_
  refine lv_iload hx hb dL_law_927 (lv_at hl 1 rfl) ?_
  refine lv_iconstN hx hb 1 dL_law_929 (by decide) ?_
  refine lv_iaddN hx hb dL_law_930 ?_
  refine lw_sld hx hb hXs hbl hbb hS (show ii + 1 < Ln by omega) hLn dL_law_931 ?_
  rw [hq1]
  have hMt := mX7_pay_g l hM h hh
  rw [hm0] at hMt
  refine mu_V (As := [.int (nI h)]) (h0 := mm) (rest := []) (v := c.I 11 h) hx hb hml hown hC hS hAb hMt (fun q h => h.elim (hLbM q) (hz0 q)) kV_L_134 ⟨rfl, rfl⟩ ⟨Nat.le_of_ble_eq_true rfl, Nat.le_of_ble_eq_true rfl⟩ (by rw [← hm0]; exact hM.1.recv hC cM_0 rfl) rfl hl (Nat.le_of_ble_eq_true rfl) ⟨show cells + 0 ≤ 609960 by omega, show slots + 0 ≤ 7266223 by omega⟩ dL_law_932 (fun H locs hB hS1 hz hkk => ?_)
  have hT := lt_m hX hM hx0 hm0 hdj hoL hoM hO hob ⟨L', ly', ad', hB, hm0, fun q h => Or.inl h⟩ hkk hS1
  obtain ⟨ly, L, ad, ly', L', ad', hX, hM, hx0, hm0, hdj, hoL, hoM, hO, hob, hS⟩ := hT
  have hLb := hX.2.2.1
  have hLbM := hM.2.2.1
  have hz0 : ∀ q, H.size ≤ q → bA E q := fun q z => by show E.2 0 ≤ q; rw [hE0]; exact Nat.le_trans hS.1 z
  refine lv_istore (lv' := [(6, .int (c.I 11 h)), (5, .int (nI 0)), (4, .int (nI ii)), (0, .ref bb), (1, .ref x), (2, .ref mm), (3, .ref out)]) hx hb dL_law_935 hl (by decide) rfl (fun ls hl => ?_)
  refine lv_aload_n hx hb dL_law_937 rfl (lv_at hl 5 rfl) ?_
  have hMt := mX7_thrown l hM
  rw [hm0] at hMt
  refine ro_V (As := []) (h0 := mm) (rest := []) (v := nI 0) hx hb hml hown hC hS hAb hMt kV_L_98 ⟨rfl, rfl⟩ ⟨Nat.le_of_ble_eq_true rfl, Nat.le_of_ble_eq_true rfl⟩ (by rw [← hm0]; exact hM.1.recv hC cM_0 rfl) rfl hl (Nat.le_of_ble_eq_true rfl) ⟨show cells + 0 ≤ 609960 by omega, show slots + 0 ≤ 7266223 by omega⟩ dL_law_938 ?_
  refine lv_iload hx hb dL_law_941 (lv_at hl 1 rfl) ?_
  refine lv_icmp_eq (tgt := 948) hx hb dL_law_943 (by decide) (fun _ => ?_) (fun c9 => absurd rfl c9)
  refine lv_iload hx hb dL_law_948 (lv_at hl 1 rfl) ?_
  have hT : LT E s.heap x mm out _ _ _ _ H locs := ⟨ly, L, ad, ly', L', ad', hX, hM, hx0, hm0, hdj, hoL, hoM, hO, hob, hS⟩
  refine lv_if_ne (tgt := 965) hx hb dL_law_950 (by decide) (fun c9 => absurd (by decide) c9) (fun _ => ?_)
  refine lv_aload_n hx hb dL_law_953 rfl (lv_at hl 6 rfl) ?_
  refine lv_iconstN hx hb 0 dL_law_954 (by decide) ?_
  refine lw_lald hx hb hC hO dL_law_955 ?_
  refine lv_iload hx hb dL_law_956 (lv_at hl 0 rfl) ?_
  refine lv_i2l (v := (c.I 11 h).toInt64) hx hb dL_law_958 rfl ?_
  refine W.lcmp hx hb dL_law_959 ?_
  rw [lg_self]
  refine lv_if_eq (tgt := 965) hx hb dL_law_960 (by decide) (fun _ => ?_) (fun c9 => absurd rfl c9)
  refine lv_goto (tgt := 1820) hx hb dL_law_965 (by decide) ?_
  refine W.widen (k := cells + 1100) (n := slots + 14000) (by omega) (by omega) ?_
  exact kk _ _ _ _ _ _ hT (lv_sub hl [2, 3, 4, 5, 6] rfl)
set_option maxHeartbeats 4000000 in
set_option maxRecDepth 100000 in
theorem lc_pay_b1 (C0 : LC p l s m co E bb Ln xs) {c : Cy} {th : Int32} {v0 : Int64} {H : Heap} {locs : List Loc} {x mm out : Nat} (hT : LT E s.heap x mm out c c th v0 H locs) {ii : Nat} (hii : ii + 7 ≤ Ln) {cells slots : Nat} (hcs : cells + 1100 ≤ 609960 ∧ slots + 14000 ≤ 7266223) {ls : Array Slot} (hl : lv_has ls 9 [(4, .int (nI ii)), (0, .ref bb), (1, .ref x), (2, .ref mm), (3, .ref out)]) (kk : KK p l e s m below meth co bb E Q x mm out ii cells slots) (v : Int32) (hq1 : xs (ii + 1) = v) (hv : isInS v (nI 0) (nI (c.R 10 1) - nI 1) = false) : W p l e room_1 s m #[Value.ref bb] below meth co H locs cells slots Q (F0 m 912 ls []) := by
  obtain ⟨hx, hb, hml, hown, hC, hNc, hXs, hbl, hE0, hst, hLn⟩ := C0
  have hAb : ∀ q, bA E q → bA E q := fun _ h => h
  have hbb : ¬ bA E bb := by show ¬ E.2 0 ≤ bb; rw [hE0]; exact Nat.not_le.mpr hbl
  obtain ⟨ly, L, ad, ly', L', ad', hX, hM, hx0, hm0, hdj, hoL, hoM, hO, hob, hS⟩ := hT
  have hLb := hX.2.2.1
  have hLbM := hM.2.2.1
  have hz0 : ∀ q, H.size ≤ q → bA E q := fun q z => by show E.2 0 ≤ q; rw [hE0]; exact Nat.le_trans hS.1 z
  refine lv_aload_n hx hb dL_law_912 rfl (lv_at hl 2 rfl) ?_
  refine lv_aload_n hx hb dL_law_913 rfl (lv_at hl 1 rfl) ?_
  refine lv_iload hx hb dL_law_914 (lv_at hl 0 rfl) ?_
  refine lv_iconstN hx hb 1 dL_law_916 (by decide) ?_
  refine lv_iaddN hx hb dL_law_917 ?_
  refine lw_sld hx hb hXs hbl hbb hS (show ii + 1 < Ln by omega) hLn dL_law_918 ?_
  rw [hq1]
  refine lv_aload_n hx hb dL_law_919 rfl (lv_at hl 4 rfl) ?_
  have hMt := mL_pay_b1 l hst hX hO hoL hob v hv
  rw [hx0] at hMt
  refine lw_S (As := [.ref x, .int v, .ref out]) (rest := []) hx hb hml hown hC hNc hS hAb hMt (fun q h => h.elim (hLb q) (fun h => h.elim (fun h => by rw [h]; exact hob) (hz0 q))) kW_L_132 ⟨rfl, rfl⟩ ⟨Nat.le_of_ble_eq_true rfl, Nat.le_of_ble_eq_true rfl⟩ rfl hl (Nat.le_of_ble_eq_true rfl) ⟨show cells + 1 ≤ 609960 by omega, show slots + 6 ≤ 7266223 by omega⟩ dL_law_920 (fun H locs hB hS1 hz hkk => ?_)
  have hT := lt_x hX hM hx0 hm0 hdj hoL hoM hO hob hB hkk hS1
  obtain ⟨ly, L, ad, ly', L', ad', hX, hM, hx0, hm0, hdj, hoL, hoM, hO, hob, hS⟩ := hT
  have hLb := hX.2.2.1
  have hLbM := hM.2.2.1
  have hz0 : ∀ q, H.size ≤ q → bA E q := fun q z => by show E.2 0 ≤ q; rw [hE0]; exact Nat.le_trans hS.1 z
  refine lv_istore (lv' := [(5, .int (nI 1)), (4, .int (nI ii)), (0, .ref bb), (1, .ref x), (2, .ref mm), (3, .ref out)]) hx hb dL_law_923 hl (by decide) rfl (fun ls hl => ?_)
  refine lv_aload_n hx hb dL_law_925 rfl (lv_at hl 4 rfl) ?_
  refine lv_aload_n hx hb dL_law_926 rfl (lv_at hl 2 rfl) ?_
  refine lv_iload hx hb dL_law_927 (lv_at hl 1 rfl) ?_
  refine lv_iconstN hx hb 1 dL_law_929 (by decide) ?_
  refine lv_iaddN hx hb dL_law_930 ?_
  refine lw_sld hx hb hXs hbl hbb hS (show ii + 1 < Ln by omega) hLn dL_law_931 ?_
  rw [hq1]
  have hMt := mX7_pay_b1 l hM v hv
  rw [hm0] at hMt
  refine mu_V (As := [.int v]) (h0 := mm) (rest := []) (v := nI 0) hx hb hml hown hC hS hAb hMt (fun q h => h.elim (hLbM q) (hz0 q)) kV_L_134 ⟨rfl, rfl⟩ ⟨Nat.le_of_ble_eq_true rfl, Nat.le_of_ble_eq_true rfl⟩ (by rw [← hm0]; exact hM.1.recv hC cM_0 rfl) rfl hl (Nat.le_of_ble_eq_true rfl) ⟨show cells + 1 + 0 ≤ 609960 by omega, show slots + 6 + 0 ≤ 7266223 by omega⟩ dL_law_932 (fun H locs hB hS1 hz hkk => ?_)
  have hT := lt_m hX hM hx0 hm0 hdj hoL hoM hO hob ⟨L', ly', ad', hB, hm0, fun q h => Or.inl h⟩ hkk hS1
  obtain ⟨ly, L, ad, ly', L', ad', hX, hM, hx0, hm0, hdj, hoL, hoM, hO, hob, hS⟩ := hT
  have hLb := hX.2.2.1
  have hLbM := hM.2.2.1
  have hz0 : ∀ q, H.size ≤ q → bA E q := fun q z => by show E.2 0 ≤ q; rw [hE0]; exact Nat.le_trans hS.1 z
  refine lv_istore (lv' := [(6, .int (nI 0)), (5, .int (nI 1)), (4, .int (nI ii)), (0, .ref bb), (1, .ref x), (2, .ref mm), (3, .ref out)]) hx hb dL_law_935 hl (by decide) rfl (fun ls hl => ?_)
  refine lv_aload_n hx hb dL_law_937 rfl (lv_at hl 5 rfl) ?_
  have hMt := mX7_thrown l hM
  rw [hm0] at hMt
  refine ro_V (As := []) (h0 := mm) (rest := []) (v := nI 1) hx hb hml hown hC hS hAb hMt kV_L_98 ⟨rfl, rfl⟩ ⟨Nat.le_of_ble_eq_true rfl, Nat.le_of_ble_eq_true rfl⟩ (by rw [← hm0]; exact hM.1.recv hC cM_0 rfl) rfl hl (Nat.le_of_ble_eq_true rfl) ⟨show cells + 1 + 0 ≤ 609960 by omega, show slots + 6 + 0 ≤ 7266223 by omega⟩ dL_law_938 ?_
  refine lv_iload hx hb dL_law_941 (lv_at hl 1 rfl) ?_
  refine lv_icmp_eq (tgt := 948) hx hb dL_law_943 (by decide) (fun _ => ?_) (fun c9 => absurd rfl c9)
  refine lv_iload hx hb dL_law_948 (lv_at hl 1 rfl) ?_
  have hT : LT E s.heap x mm out _ _ _ _ H locs := ⟨ly, L, ad, ly', L', ad', hX, hM, hx0, hm0, hdj, hoL, hoM, hO, hob, hS⟩
  refine lv_if_ne (tgt := 965) hx hb dL_law_950 (by decide) (fun _ => ?_) (fun c9 => absurd c9 (by decide))
  refine lv_goto (tgt := 1820) hx hb dL_law_965 (by decide) ?_
  refine W.widen (k := cells + 1100) (n := slots + 14000) (by omega) (by omega) ?_
  exact kk _ _ _ _ _ _ hT (lv_sub hl [2, 3, 4, 5, 6] rfl)
set_option maxHeartbeats 4000000 in
set_option maxRecDepth 100000 in
theorem lc_pass_g (C0 : LC p l s m co E bb Ln xs) {c : Cy} {th : Int32} {v0 : Int64} {H : Heap} {locs : List Loc} {x mm out : Nat} (hT : LT E s.heap x mm out c c th v0 H locs) {ii : Nat} (hii : ii + 7 ≤ Ln) {cells slots : Nat} (hcs : cells + 1100 ≤ 609960 ∧ slots + 14000 ≤ 7266223) {ls : Array Slot} (hl : lv_has ls 9 [(4, .int (nI ii)), (0, .ref bb), (1, .ref x), (2, .ref mm), (3, .ref out)]) (kk : KK p l e s m below meth co bb E Q x mm out ii cells slots) (n : Nat) (hq1 : xs (ii + 1) = nI n) (hn : 1 ≤ n) (hn2 : n ≤ 30) (ht : c.R 0 0 + n ≤ 400) : W p l e room_1 s m #[Value.ref bb] below meth co H locs cells slots Q (F0 m 968 ls []) := by
  obtain ⟨hx, hb, hml, hown, hC, hNc, hXs, hbl, hE0, hst, hLn⟩ := C0
  have hAb : ∀ q, bA E q → bA E q := fun _ h => h
  have hbb : ¬ bA E bb := by show ¬ E.2 0 ≤ bb; rw [hE0]; exact Nat.not_le.mpr hbl
  obtain ⟨ly, L, ad, ly', L', ad', hX, hM, hx0, hm0, hdj, hoL, hoM, hO, hob, hS⟩ := hT
  have hLb := hX.2.2.1
  have hLbM := hM.2.2.1
  have hz0 : ∀ q, H.size ≤ q → bA E q := fun q z => by show E.2 0 ≤ q; rw [hE0]; exact Nat.le_trans hS.1 z
  refine lv_aload_n hx hb dL_law_968 rfl (lv_at hl 2 rfl) ?_
  refine lv_aload_n hx hb dL_law_969 rfl (lv_at hl 1 rfl) ?_
  refine lv_iload hx hb dL_law_970 (lv_at hl 0 rfl) ?_
  refine lv_iconstN hx hb 1 dL_law_972 (by decide) ?_
  refine lv_iaddN hx hb dL_law_973 ?_
  refine lw_sld hx hb hXs hbl hbb hS (show ii + 1 < Ln by omega) hLn dL_law_974 ?_
  rw [hq1]
  refine lv_aload_n hx hb dL_law_975 rfl (lv_at hl 4 rfl) ?_
  have hMt := mL_pass_g l hX hO hoL hob n hn hn2 ht
  rw [hx0] at hMt
  refine lw_S (As := [.ref x, .int (nI n), .ref out]) (rest := []) hx hb hml hown hC hNc hS hAb hMt (fun q h => h.elim (hLb q) (fun h => h.elim (fun h => by rw [h]; exact hob) (hz0 q))) kW_L_135 ⟨rfl, rfl⟩ ⟨Nat.le_of_ble_eq_true rfl, Nat.le_of_ble_eq_true rfl⟩ rfl hl (Nat.le_of_ble_eq_true rfl) ⟨show cells + 0 ≤ 609960 by omega, show slots + 0 ≤ 7266223 by omega⟩ dL_law_976 (fun H locs hB hS1 hz hkk => ?_)
  have hT := lt_x hX hM hx0 hm0 hdj hoL hoM hO hob hB hkk hS1
  obtain ⟨ly, L, ad, ly', L', ad', hX, hM, hx0, hm0, hdj, hoL, hoM, hO, hob, hS⟩ := hT
  have hLb := hX.2.2.1
  have hLbM := hM.2.2.1
  have hz0 : ∀ q, H.size ≤ q → bA E q := fun q z => by show E.2 0 ≤ q; rw [hE0]; exact Nat.le_trans hS.1 z
  refine lv_istore (lv' := [(5, .int (nI 0)), (4, .int (nI ii)), (0, .ref bb), (1, .ref x), (2, .ref mm), (3, .ref out)]) hx hb dL_law_979 hl (by decide) rfl (fun ls hl => ?_)
  refine lv_aload_n hx hb dL_law_981 rfl (lv_at hl 4 rfl) ?_
  refine lv_aload_n hx hb dL_law_982 rfl (lv_at hl 2 rfl) ?_
  refine lv_iload hx hb dL_law_983 (lv_at hl 1 rfl) ?_
  refine lv_iconstN hx hb 1 dL_law_985 (by decide) ?_
  refine lv_iaddN hx hb dL_law_986 ?_
  refine lw_sld hx hb hXs hbl hbb hS (show ii + 1 < Ln by omega) hLn dL_law_987 ?_
  rw [hq1]
  have hMt := mX7_pass_g l hM n hn hn2 ht
  rw [hm0] at hMt
  refine mu_V (As := [.int (nI n)]) (h0 := mm) (rest := []) (v := nI (smN (fun k => niN (niC c k)) n)) hx hb hml hown hC hS hAb hMt (fun q h => h.elim (hLbM q) (hz0 q)) kV_L_137 ⟨rfl, rfl⟩ ⟨Nat.le_of_ble_eq_true rfl, Nat.le_of_ble_eq_true rfl⟩ (by rw [← hm0]; exact hM.1.recv hC cM_0 rfl) rfl hl (Nat.le_of_ble_eq_true rfl) ⟨show cells + 60 ≤ 609960 by omega, show slots + 240 ≤ 7266223 by omega⟩ dL_law_988 (fun H locs hB hS1 hz hkk => ?_)
  have hT := lt_m hX hM hx0 hm0 hdj hoL hoM hO hob ⟨L', ly', ad', hB, hm0, fun q h => Or.inl h⟩ hkk hS1
  obtain ⟨ly, L, ad, ly', L', ad', hX, hM, hx0, hm0, hdj, hoL, hoM, hO, hob, hS⟩ := hT
  have hLb := hX.2.2.1
  have hLbM := hM.2.2.1
  have hz0 : ∀ q, H.size ≤ q → bA E q := fun q z => by show E.2 0 ≤ q; rw [hE0]; exact Nat.le_trans hS.1 z
  refine lv_istore (lv' := [(6, .int (nI (smN (fun k => niN (niC c k)) n))), (5, .int (nI 0)), (4, .int (nI ii)), (0, .ref bb), (1, .ref x), (2, .ref mm), (3, .ref out)]) hx hb dL_law_991 hl (by decide) rfl (fun ls hl => ?_)
  refine lv_aload_n hx hb dL_law_993 rfl (lv_at hl 5 rfl) ?_
  have hMt := mX7_thrown l hM
  rw [hm0] at hMt
  refine ro_V (As := []) (h0 := mm) (rest := []) (v := nI 0) hx hb hml hown hC hS hAb hMt kV_L_98 ⟨rfl, rfl⟩ ⟨Nat.le_of_ble_eq_true rfl, Nat.le_of_ble_eq_true rfl⟩ (by rw [← hm0]; exact hM.1.recv hC cM_0 rfl) rfl hl (Nat.le_of_ble_eq_true rfl) ⟨show cells + 60 + 0 ≤ 609960 by omega, show slots + 240 + 0 ≤ 7266223 by omega⟩ dL_law_994 ?_
  refine lv_iload hx hb dL_law_997 (lv_at hl 1 rfl) ?_
  refine lv_icmp_eq (tgt := 1004) hx hb dL_law_999 (by decide) (fun _ => ?_) (fun c9 => absurd rfl c9)
  refine lv_iload hx hb dL_law_1004 (lv_at hl 1 rfl) ?_
  have hT : LT E s.heap x mm out _ _ _ _ H locs := ⟨ly, L, ad, ly', L', ad', hX, hM, hx0, hm0, hdj, hoL, hoM, hO, hob, hS⟩
  refine lv_if_ne (tgt := 1021) hx hb dL_law_1006 (by decide) (fun c9 => absurd (by decide) c9) (fun _ => ?_)
  refine lv_aload_n hx hb dL_law_1009 rfl (lv_at hl 6 rfl) ?_
  refine lv_iconstN hx hb 0 dL_law_1010 (by decide) ?_
  refine lw_lald hx hb hC hO dL_law_1011 ?_
  refine lv_iload hx hb dL_law_1012 (lv_at hl 0 rfl) ?_
  refine lv_i2l (v := (nI (smN (fun k => niN (niC c k)) n)).toInt64) hx hb dL_law_1014 rfl ?_
  refine W.lcmp hx hb dL_law_1015 ?_
  rw [lg_self]
  refine lv_if_eq (tgt := 1021) hx hb dL_law_1016 (by decide) (fun _ => ?_) (fun c9 => absurd rfl c9)
  refine lv_goto (tgt := 1820) hx hb dL_law_1021 (by decide) ?_
  refine W.widen (k := cells + 1100) (n := slots + 14000) (by omega) (by omega) ?_
  exact kk _ _ _ _ _ _ hT (lv_sub hl [2, 3, 4, 5, 6] rfl)
set_option maxHeartbeats 4000000 in
set_option maxRecDepth 100000 in
theorem lc_pass_b1 (C0 : LC p l s m co E bb Ln xs) {c : Cy} {th : Int32} {v0 : Int64} {H : Heap} {locs : List Loc} {x mm out : Nat} (hT : LT E s.heap x mm out c c th v0 H locs) {ii : Nat} (hii : ii + 7 ≤ Ln) {cells slots : Nat} (hcs : cells + 1100 ≤ 609960 ∧ slots + 14000 ≤ 7266223) {ls : Array Slot} (hl : lv_has ls 9 [(4, .int (nI ii)), (0, .ref bb), (1, .ref x), (2, .ref mm), (3, .ref out)]) (kk : KK p l e s m below meth co bb E Q x mm out ii cells slots) (v : Int32) (hq1 : xs (ii + 1) = v) (hv : isInS v (nI 1) (nI 30) = false) : W p l e room_1 s m #[Value.ref bb] below meth co H locs cells slots Q (F0 m 968 ls []) := by
  obtain ⟨hx, hb, hml, hown, hC, hNc, hXs, hbl, hE0, hst, hLn⟩ := C0
  have hAb : ∀ q, bA E q → bA E q := fun _ h => h
  have hbb : ¬ bA E bb := by show ¬ E.2 0 ≤ bb; rw [hE0]; exact Nat.not_le.mpr hbl
  obtain ⟨ly, L, ad, ly', L', ad', hX, hM, hx0, hm0, hdj, hoL, hoM, hO, hob, hS⟩ := hT
  have hLb := hX.2.2.1
  have hLbM := hM.2.2.1
  have hz0 : ∀ q, H.size ≤ q → bA E q := fun q z => by show E.2 0 ≤ q; rw [hE0]; exact Nat.le_trans hS.1 z
  refine lv_aload_n hx hb dL_law_968 rfl (lv_at hl 2 rfl) ?_
  refine lv_aload_n hx hb dL_law_969 rfl (lv_at hl 1 rfl) ?_
  refine lv_iload hx hb dL_law_970 (lv_at hl 0 rfl) ?_
  refine lv_iconstN hx hb 1 dL_law_972 (by decide) ?_
  refine lv_iaddN hx hb dL_law_973 ?_
  refine lw_sld hx hb hXs hbl hbb hS (show ii + 1 < Ln by omega) hLn dL_law_974 ?_
  rw [hq1]
  refine lv_aload_n hx hb dL_law_975 rfl (lv_at hl 4 rfl) ?_
  have hMt := mL_pass_b1 l hst hX hO hoL hob v hv
  rw [hx0] at hMt
  refine lw_S (As := [.ref x, .int v, .ref out]) (rest := []) hx hb hml hown hC hNc hS hAb hMt (fun q h => h.elim (hLb q) (fun h => h.elim (fun h => by rw [h]; exact hob) (hz0 q))) kW_L_135 ⟨rfl, rfl⟩ ⟨Nat.le_of_ble_eq_true rfl, Nat.le_of_ble_eq_true rfl⟩ rfl hl (Nat.le_of_ble_eq_true rfl) ⟨show cells + 1 ≤ 609960 by omega, show slots + 6 ≤ 7266223 by omega⟩ dL_law_976 (fun H locs hB hS1 hz hkk => ?_)
  have hT := lt_x hX hM hx0 hm0 hdj hoL hoM hO hob hB hkk hS1
  obtain ⟨ly, L, ad, ly', L', ad', hX, hM, hx0, hm0, hdj, hoL, hoM, hO, hob, hS⟩ := hT
  have hLb := hX.2.2.1
  have hLbM := hM.2.2.1
  have hz0 : ∀ q, H.size ≤ q → bA E q := fun q z => by show E.2 0 ≤ q; rw [hE0]; exact Nat.le_trans hS.1 z
  refine lv_istore (lv' := [(5, .int (nI 1)), (4, .int (nI ii)), (0, .ref bb), (1, .ref x), (2, .ref mm), (3, .ref out)]) hx hb dL_law_979 hl (by decide) rfl (fun ls hl => ?_)
  refine lv_aload_n hx hb dL_law_981 rfl (lv_at hl 4 rfl) ?_
  refine lv_aload_n hx hb dL_law_982 rfl (lv_at hl 2 rfl) ?_
  refine lv_iload hx hb dL_law_983 (lv_at hl 1 rfl) ?_
  refine lv_iconstN hx hb 1 dL_law_985 (by decide) ?_
  refine lv_iaddN hx hb dL_law_986 ?_
  refine lw_sld hx hb hXs hbl hbb hS (show ii + 1 < Ln by omega) hLn dL_law_987 ?_
  rw [hq1]
  have hMt := mX7_pass_b1 l hM v hv
  rw [hm0] at hMt
  refine mu_V (As := [.int v]) (h0 := mm) (rest := []) (v := nI 0) hx hb hml hown hC hS hAb hMt (fun q h => h.elim (hLbM q) (hz0 q)) kV_L_137 ⟨rfl, rfl⟩ ⟨Nat.le_of_ble_eq_true rfl, Nat.le_of_ble_eq_true rfl⟩ (by rw [← hm0]; exact hM.1.recv hC cM_0 rfl) rfl hl (Nat.le_of_ble_eq_true rfl) ⟨show cells + 1 + 0 ≤ 609960 by omega, show slots + 6 + 0 ≤ 7266223 by omega⟩ dL_law_988 (fun H locs hB hS1 hz hkk => ?_)
  have hT := lt_m hX hM hx0 hm0 hdj hoL hoM hO hob ⟨L', ly', ad', hB, hm0, fun q h => Or.inl h⟩ hkk hS1
  obtain ⟨ly, L, ad, ly', L', ad', hX, hM, hx0, hm0, hdj, hoL, hoM, hO, hob, hS⟩ := hT
  have hLb := hX.2.2.1
  have hLbM := hM.2.2.1
  have hz0 : ∀ q, H.size ≤ q → bA E q := fun q z => by show E.2 0 ≤ q; rw [hE0]; exact Nat.le_trans hS.1 z
  refine lv_istore (lv' := [(6, .int (nI 0)), (5, .int (nI 1)), (4, .int (nI ii)), (0, .ref bb), (1, .ref x), (2, .ref mm), (3, .ref out)]) hx hb dL_law_991 hl (by decide) rfl (fun ls hl => ?_)
  refine lv_aload_n hx hb dL_law_993 rfl (lv_at hl 5 rfl) ?_
  have hMt := mX7_thrown l hM
  rw [hm0] at hMt
  refine ro_V (As := []) (h0 := mm) (rest := []) (v := nI 1) hx hb hml hown hC hS hAb hMt kV_L_98 ⟨rfl, rfl⟩ ⟨Nat.le_of_ble_eq_true rfl, Nat.le_of_ble_eq_true rfl⟩ (by rw [← hm0]; exact hM.1.recv hC cM_0 rfl) rfl hl (Nat.le_of_ble_eq_true rfl) ⟨show cells + 1 + 0 ≤ 609960 by omega, show slots + 6 + 0 ≤ 7266223 by omega⟩ dL_law_994 ?_
  refine lv_iload hx hb dL_law_997 (lv_at hl 1 rfl) ?_
  refine lv_icmp_eq (tgt := 1004) hx hb dL_law_999 (by decide) (fun _ => ?_) (fun c9 => absurd rfl c9)
  refine lv_iload hx hb dL_law_1004 (lv_at hl 1 rfl) ?_
  have hT : LT E s.heap x mm out _ _ _ _ H locs := ⟨ly, L, ad, ly', L', ad', hX, hM, hx0, hm0, hdj, hoL, hoM, hO, hob, hS⟩
  refine lv_if_ne (tgt := 1021) hx hb dL_law_1006 (by decide) (fun _ => ?_) (fun c9 => absurd c9 (by decide))
  refine lv_goto (tgt := 1820) hx hb dL_law_1021 (by decide) ?_
  refine W.widen (k := cells + 1100) (n := slots + 14000) (by omega) (by omega) ?_
  exact kk _ _ _ _ _ _ hT (lv_sub hl [2, 3, 4, 5, 6] rfl)
set_option maxHeartbeats 4000000 in
set_option maxRecDepth 100000 in
theorem lc_pass_b2 (C0 : LC p l s m co E bb Ln xs) {c : Cy} {th : Int32} {v0 : Int64} {H : Heap} {locs : List Loc} {x mm out : Nat} (hT : LT E s.heap x mm out c c th v0 H locs) {ii : Nat} (hii : ii + 7 ≤ Ln) {cells slots : Nat} (hcs : cells + 1100 ≤ 609960 ∧ slots + 14000 ≤ 7266223) {ls : Array Slot} (hl : lv_has ls 9 [(4, .int (nI ii)), (0, .ref bb), (1, .ref x), (2, .ref mm), (3, .ref out)]) (kk : KK p l e s m below meth co bb E Q x mm out ii cells slots) (n : Nat) (hq1 : xs (ii + 1) = nI n) (hn : 1 ≤ n) (hn2 : n ≤ 30) (ht : 400 < c.R 0 0 + n) : W p l e room_1 s m #[Value.ref bb] below meth co H locs cells slots Q (F0 m 968 ls []) := by
  obtain ⟨hx, hb, hml, hown, hC, hNc, hXs, hbl, hE0, hst, hLn⟩ := C0
  have hAb : ∀ q, bA E q → bA E q := fun _ h => h
  have hbb : ¬ bA E bb := by show ¬ E.2 0 ≤ bb; rw [hE0]; exact Nat.not_le.mpr hbl
  obtain ⟨ly, L, ad, ly', L', ad', hX, hM, hx0, hm0, hdj, hoL, hoM, hO, hob, hS⟩ := hT
  have hLb := hX.2.2.1
  have hLbM := hM.2.2.1
  have hz0 : ∀ q, H.size ≤ q → bA E q := fun q z => by show E.2 0 ≤ q; rw [hE0]; exact Nat.le_trans hS.1 z
  refine lv_aload_n hx hb dL_law_968 rfl (lv_at hl 2 rfl) ?_
  refine lv_aload_n hx hb dL_law_969 rfl (lv_at hl 1 rfl) ?_
  refine lv_iload hx hb dL_law_970 (lv_at hl 0 rfl) ?_
  refine lv_iconstN hx hb 1 dL_law_972 (by decide) ?_
  refine lv_iaddN hx hb dL_law_973 ?_
  refine lw_sld hx hb hXs hbl hbb hS (show ii + 1 < Ln by omega) hLn dL_law_974 ?_
  rw [hq1]
  refine lv_aload_n hx hb dL_law_975 rfl (lv_at hl 4 rfl) ?_
  have hMt := mL_pass_b2 l hst hX hO hoL hob n hn hn2 ht
  rw [hx0] at hMt
  refine lw_S (As := [.ref x, .int (nI n), .ref out]) (rest := []) hx hb hml hown hC hNc hS hAb hMt (fun q h => h.elim (hLb q) (fun h => h.elim (fun h => by rw [h]; exact hob) (hz0 q))) kW_L_135 ⟨rfl, rfl⟩ ⟨Nat.le_of_ble_eq_true rfl, Nat.le_of_ble_eq_true rfl⟩ rfl hl (Nat.le_of_ble_eq_true rfl) ⟨show cells + 1 ≤ 609960 by omega, show slots + 6 ≤ 7266223 by omega⟩ dL_law_976 (fun H locs hB hS1 hz hkk => ?_)
  have hT := lt_x hX hM hx0 hm0 hdj hoL hoM hO hob hB hkk hS1
  obtain ⟨ly, L, ad, ly', L', ad', hX, hM, hx0, hm0, hdj, hoL, hoM, hO, hob, hS⟩ := hT
  have hLb := hX.2.2.1
  have hLbM := hM.2.2.1
  have hz0 : ∀ q, H.size ≤ q → bA E q := fun q z => by show E.2 0 ≤ q; rw [hE0]; exact Nat.le_trans hS.1 z
  refine lv_istore (lv' := [(5, .int (nI 2)), (4, .int (nI ii)), (0, .ref bb), (1, .ref x), (2, .ref mm), (3, .ref out)]) hx hb dL_law_979 hl (by decide) rfl (fun ls hl => ?_)
  refine lv_aload_n hx hb dL_law_981 rfl (lv_at hl 4 rfl) ?_
  refine lv_aload_n hx hb dL_law_982 rfl (lv_at hl 2 rfl) ?_
  refine lv_iload hx hb dL_law_983 (lv_at hl 1 rfl) ?_
  refine lv_iconstN hx hb 1 dL_law_985 (by decide) ?_
  refine lv_iaddN hx hb dL_law_986 ?_
  refine lw_sld hx hb hXs hbl hbb hS (show ii + 1 < Ln by omega) hLn dL_law_987 ?_
  rw [hq1]
  have hMt := mX7_pass_b2 l hM n hn hn2 ht
  rw [hm0] at hMt
  refine mu_V (As := [.int (nI n)]) (h0 := mm) (rest := []) (v := nI 0) hx hb hml hown hC hS hAb hMt (fun q h => h.elim (hLbM q) (hz0 q)) kV_L_137 ⟨rfl, rfl⟩ ⟨Nat.le_of_ble_eq_true rfl, Nat.le_of_ble_eq_true rfl⟩ (by rw [← hm0]; exact hM.1.recv hC cM_0 rfl) rfl hl (Nat.le_of_ble_eq_true rfl) ⟨show cells + 1 + 0 ≤ 609960 by omega, show slots + 6 + 0 ≤ 7266223 by omega⟩ dL_law_988 (fun H locs hB hS1 hz hkk => ?_)
  have hT := lt_m hX hM hx0 hm0 hdj hoL hoM hO hob ⟨L', ly', ad', hB, hm0, fun q h => Or.inl h⟩ hkk hS1
  obtain ⟨ly, L, ad, ly', L', ad', hX, hM, hx0, hm0, hdj, hoL, hoM, hO, hob, hS⟩ := hT
  have hLb := hX.2.2.1
  have hLbM := hM.2.2.1
  have hz0 : ∀ q, H.size ≤ q → bA E q := fun q z => by show E.2 0 ≤ q; rw [hE0]; exact Nat.le_trans hS.1 z
  refine lv_istore (lv' := [(6, .int (nI 0)), (5, .int (nI 2)), (4, .int (nI ii)), (0, .ref bb), (1, .ref x), (2, .ref mm), (3, .ref out)]) hx hb dL_law_991 hl (by decide) rfl (fun ls hl => ?_)
  refine lv_aload_n hx hb dL_law_993 rfl (lv_at hl 5 rfl) ?_
  have hMt := mX7_thrown l hM
  rw [hm0] at hMt
  refine ro_V (As := []) (h0 := mm) (rest := []) (v := nI 2) hx hb hml hown hC hS hAb hMt kV_L_98 ⟨rfl, rfl⟩ ⟨Nat.le_of_ble_eq_true rfl, Nat.le_of_ble_eq_true rfl⟩ (by rw [← hm0]; exact hM.1.recv hC cM_0 rfl) rfl hl (Nat.le_of_ble_eq_true rfl) ⟨show cells + 1 + 0 ≤ 609960 by omega, show slots + 6 + 0 ≤ 7266223 by omega⟩ dL_law_994 ?_
  refine lv_iload hx hb dL_law_997 (lv_at hl 1 rfl) ?_
  refine lv_icmp_eq (tgt := 1004) hx hb dL_law_999 (by decide) (fun _ => ?_) (fun c9 => absurd rfl c9)
  refine lv_iload hx hb dL_law_1004 (lv_at hl 1 rfl) ?_
  have hT : LT E s.heap x mm out _ _ _ _ H locs := ⟨ly, L, ad, ly', L', ad', hX, hM, hx0, hm0, hdj, hoL, hoM, hO, hob, hS⟩
  refine lv_if_ne (tgt := 1021) hx hb dL_law_1006 (by decide) (fun _ => ?_) (fun c9 => absurd c9 (by decide))
  refine lv_goto (tgt := 1820) hx hb dL_law_1021 (by decide) ?_
  refine W.widen (k := cells + 1100) (n := slots + 14000) (by omega) (by omega) ?_
  exact kk _ _ _ _ _ _ hT (lv_sub hl [2, 3, 4, 5, 6] rfl)
set_option maxHeartbeats 4000000 in
set_option maxRecDepth 100000 in
theorem lc_ofWall_g (C0 : LC p l s m co E bb Ln xs) {c : Cy} {th : Int32} {v0 : Int64} {H : Heap} {locs : List Loc} {x mm out : Nat} (hT : LT E s.heap x mm out c c th v0 H locs) {ii : Nat} (hii : ii + 7 ≤ Ln) {cells slots : Nat} (hcs : cells + 1100 ≤ 609960 ∧ slots + 14000 ≤ 7266223) {ls : Array Slot} (hl : lv_has ls 9 [(4, .int (nI ii)), (0, .ref bb), (1, .ref x), (2, .ref mm), (3, .ref out)]) (kk : KK p l e s m below meth co bb E Q x mm out ii cells slots) (i w : Nat) (hq1 : xs (ii + 1) = nI i) (hq2 : xs (ii + 2) = nI w) (hi : i < c.R 10 0) (hw : w ≤ 6) : W p l e room_1 s m #[Value.ref bb] below meth co H locs cells slots Q (F0 m 1024 ls []) := by
  obtain ⟨hx, hb, hml, hown, hC, hNc, hXs, hbl, hE0, hst, hLn⟩ := C0
  have hAb : ∀ q, bA E q → bA E q := fun _ h => h
  have hbb : ¬ bA E bb := by show ¬ E.2 0 ≤ bb; rw [hE0]; exact Nat.not_le.mpr hbl
  obtain ⟨ly, L, ad, ly', L', ad', hX, hM, hx0, hm0, hdj, hoL, hoM, hO, hob, hS⟩ := hT
  have hLb := hX.2.2.1
  have hLbM := hM.2.2.1
  have hz0 : ∀ q, H.size ≤ q → bA E q := fun q z => by show E.2 0 ≤ q; rw [hE0]; exact Nat.le_trans hS.1 z
  refine lv_aload_n hx hb dL_law_1024 rfl (lv_at hl 2 rfl) ?_
  refine lv_aload_n hx hb dL_law_1025 rfl (lv_at hl 1 rfl) ?_
  refine lv_iload hx hb dL_law_1026 (lv_at hl 0 rfl) ?_
  refine lv_iconstN hx hb 1 dL_law_1028 (by decide) ?_
  refine lv_iaddN hx hb dL_law_1029 ?_
  refine lw_sld hx hb hXs hbl hbb hS (show ii + 1 < Ln by omega) hLn dL_law_1030 ?_
  rw [hq1]
  refine lv_aload_n hx hb dL_law_1031 rfl (lv_at hl 1 rfl) ?_
  refine lv_iload hx hb dL_law_1032 (lv_at hl 0 rfl) ?_
  refine lv_iconstN hx hb 2 dL_law_1034 (by decide) ?_
  refine lv_iaddN hx hb dL_law_1035 ?_
  refine lw_sld hx hb hXs hbl hbb hS (show ii + 2 < Ln by omega) hLn dL_law_1036 ?_
  rw [hq2]
  refine lv_aload_n hx hb dL_law_1037 rfl (lv_at hl 4 rfl) ?_
  have hMt := mL_ofWall_g l hX hO hoL hob i w hi hw
  rw [hx0] at hMt
  refine lw_S (As := [.ref x, .int (nI i), .int (nI w), .ref out]) (rest := []) hx hb hml hown hC hNc hS hAb hMt (fun q h => h.elim (hLb q) (fun h => h.elim (fun h => by rw [h]; exact hob) (hz0 q))) kW_L_138 ⟨rfl, rfl⟩ ⟨Nat.le_of_ble_eq_true rfl, Nat.le_of_ble_eq_true rfl⟩ rfl hl (Nat.le_of_ble_eq_true rfl) ⟨show cells + 0 ≤ 609960 by omega, show slots + 0 ≤ 7266223 by omega⟩ dL_law_1038 (fun H locs hB hS1 hz hkk => ?_)
  have hT := lt_x hX hM hx0 hm0 hdj hoL hoM hO hob hB hkk hS1
  obtain ⟨ly, L, ad, ly', L', ad', hX, hM, hx0, hm0, hdj, hoL, hoM, hO, hob, hS⟩ := hT
  have hLb := hX.2.2.1
  have hLbM := hM.2.2.1
  have hz0 : ∀ q, H.size ≤ q → bA E q := fun q z => by show E.2 0 ≤ q; rw [hE0]; exact Nat.le_trans hS.1 z
  refine lv_istore (lv' := [(5, .int (nI 0)), (4, .int (nI ii)), (0, .ref bb), (1, .ref x), (2, .ref mm), (3, .ref out)]) hx hb dL_law_1041 hl (by decide) rfl (fun ls hl => ?_)
  refine lv_aload_n hx hb dL_law_1043 rfl (lv_at hl 4 rfl) ?_
  refine lv_aload_n hx hb dL_law_1044 rfl (lv_at hl 2 rfl) ?_
  refine lv_iload hx hb dL_law_1045 (lv_at hl 1 rfl) ?_
  refine lv_iconstN hx hb 1 dL_law_1047 (by decide) ?_
  refine lv_iaddN hx hb dL_law_1048 ?_
  refine lw_sld hx hb hXs hbl hbb hS (show ii + 1 < Ln by omega) hLn dL_law_1049 ?_
  rw [hq1]
  refine lv_aload_n hx hb dL_law_1050 rfl (lv_at hl 2 rfl) ?_
  refine lv_iload hx hb dL_law_1051 (lv_at hl 1 rfl) ?_
  refine lv_iconstN hx hb 2 dL_law_1053 (by decide) ?_
  refine lv_iaddN hx hb dL_law_1054 ?_
  refine lw_sld hx hb hXs hbl hbb hS (show ii + 2 < Ln by omega) hLn dL_law_1055 ?_
  rw [hq2]
  have hMt := mX7_ofWall_g l hM i w hi hw
  rw [hm0] at hMt
  refine mu_V (As := [.int (nI i), .int (nI w)]) (h0 := mm) (rest := []) (v := owS c i (nI w)) hx hb hml hown hC hS hAb hMt (fun q h => h.elim (hLbM q) (hz0 q)) kV_L_141 ⟨rfl, rfl⟩ ⟨Nat.le_of_ble_eq_true rfl, Nat.le_of_ble_eq_true rfl⟩ (by rw [← hm0]; exact hM.1.recv hC cM_0 rfl) rfl hl (Nat.le_of_ble_eq_true rfl) ⟨show cells + 0 ≤ 609960 by omega, show slots + 0 ≤ 7266223 by omega⟩ dL_law_1056 (fun H locs hB hS1 hz hkk => ?_)
  have hT := lt_m hX hM hx0 hm0 hdj hoL hoM hO hob ⟨L', ly', ad', hB, hm0, fun q h => Or.inl h⟩ hkk hS1
  obtain ⟨ly, L, ad, ly', L', ad', hX, hM, hx0, hm0, hdj, hoL, hoM, hO, hob, hS⟩ := hT
  have hLb := hX.2.2.1
  have hLbM := hM.2.2.1
  have hz0 : ∀ q, H.size ≤ q → bA E q := fun q z => by show E.2 0 ≤ q; rw [hE0]; exact Nat.le_trans hS.1 z
  refine lv_istore (lv' := [(6, .int (owS c i (nI w))), (5, .int (nI 0)), (4, .int (nI ii)), (0, .ref bb), (1, .ref x), (2, .ref mm), (3, .ref out)]) hx hb dL_law_1059 hl (by decide) rfl (fun ls hl => ?_)
  refine lv_aload_n hx hb dL_law_1061 rfl (lv_at hl 5 rfl) ?_
  have hMt := mX7_thrown l hM
  rw [hm0] at hMt
  refine ro_V (As := []) (h0 := mm) (rest := []) (v := nI 0) hx hb hml hown hC hS hAb hMt kV_L_98 ⟨rfl, rfl⟩ ⟨Nat.le_of_ble_eq_true rfl, Nat.le_of_ble_eq_true rfl⟩ (by rw [← hm0]; exact hM.1.recv hC cM_0 rfl) rfl hl (Nat.le_of_ble_eq_true rfl) ⟨show cells + 0 ≤ 609960 by omega, show slots + 0 ≤ 7266223 by omega⟩ dL_law_1062 ?_
  refine lv_iload hx hb dL_law_1065 (lv_at hl 1 rfl) ?_
  refine lv_icmp_eq (tgt := 1072) hx hb dL_law_1067 (by decide) (fun _ => ?_) (fun c9 => absurd rfl c9)
  refine lv_iload hx hb dL_law_1072 (lv_at hl 1 rfl) ?_
  have hT : LT E s.heap x mm out _ _ _ _ H locs := ⟨ly, L, ad, ly', L', ad', hX, hM, hx0, hm0, hdj, hoL, hoM, hO, hob, hS⟩
  refine lv_if_ne (tgt := 1089) hx hb dL_law_1074 (by decide) (fun c9 => absurd (by decide) c9) (fun _ => ?_)
  refine lv_aload_n hx hb dL_law_1077 rfl (lv_at hl 6 rfl) ?_
  refine lv_iconstN hx hb 0 dL_law_1078 (by decide) ?_
  refine lw_lald hx hb hC hO dL_law_1079 ?_
  refine lv_iload hx hb dL_law_1080 (lv_at hl 0 rfl) ?_
  refine lv_i2l (v := (owS c i (nI w)).toInt64) hx hb dL_law_1082 rfl ?_
  refine W.lcmp hx hb dL_law_1083 ?_
  rw [lg_self]
  refine lv_if_eq (tgt := 1089) hx hb dL_law_1084 (by decide) (fun _ => ?_) (fun c9 => absurd rfl c9)
  refine lv_goto (tgt := 1820) hx hb dL_law_1089 (by decide) ?_
  refine W.widen (k := cells + 1100) (n := slots + 14000) (by omega) (by omega) ?_
  exact kk _ _ _ _ _ _ hT (lv_sub hl [2, 3, 4, 5, 6] rfl)
set_option maxHeartbeats 4000000 in
set_option maxRecDepth 100000 in
theorem lc_ofWall_b1 (C0 : LC p l s m co E bb Ln xs) {c : Cy} {th : Int32} {v0 : Int64} {H : Heap} {locs : List Loc} {x mm out : Nat} (hT : LT E s.heap x mm out c c th v0 H locs) {ii : Nat} (hii : ii + 7 ≤ Ln) {cells slots : Nat} (hcs : cells + 1100 ≤ 609960 ∧ slots + 14000 ≤ 7266223) {ls : Array Slot} (hl : lv_has ls 9 [(4, .int (nI ii)), (0, .ref bb), (1, .ref x), (2, .ref mm), (3, .ref out)]) (kk : KK p l e s m below meth co bb E Q x mm out ii cells slots) (v w : Int32) (hq1 : xs (ii + 1) = v) (hq2 : xs (ii + 2) = w) (hv : isInS v (nI 0) (nI (c.R 10 0) - nI 1) = false) : W p l e room_1 s m #[Value.ref bb] below meth co H locs cells slots Q (F0 m 1024 ls []) := by
  obtain ⟨hx, hb, hml, hown, hC, hNc, hXs, hbl, hE0, hst, hLn⟩ := C0
  have hAb : ∀ q, bA E q → bA E q := fun _ h => h
  have hbb : ¬ bA E bb := by show ¬ E.2 0 ≤ bb; rw [hE0]; exact Nat.not_le.mpr hbl
  obtain ⟨ly, L, ad, ly', L', ad', hX, hM, hx0, hm0, hdj, hoL, hoM, hO, hob, hS⟩ := hT
  have hLb := hX.2.2.1
  have hLbM := hM.2.2.1
  have hz0 : ∀ q, H.size ≤ q → bA E q := fun q z => by show E.2 0 ≤ q; rw [hE0]; exact Nat.le_trans hS.1 z
  refine lv_aload_n hx hb dL_law_1024 rfl (lv_at hl 2 rfl) ?_
  refine lv_aload_n hx hb dL_law_1025 rfl (lv_at hl 1 rfl) ?_
  refine lv_iload hx hb dL_law_1026 (lv_at hl 0 rfl) ?_
  refine lv_iconstN hx hb 1 dL_law_1028 (by decide) ?_
  refine lv_iaddN hx hb dL_law_1029 ?_
  refine lw_sld hx hb hXs hbl hbb hS (show ii + 1 < Ln by omega) hLn dL_law_1030 ?_
  rw [hq1]
  refine lv_aload_n hx hb dL_law_1031 rfl (lv_at hl 1 rfl) ?_
  refine lv_iload hx hb dL_law_1032 (lv_at hl 0 rfl) ?_
  refine lv_iconstN hx hb 2 dL_law_1034 (by decide) ?_
  refine lv_iaddN hx hb dL_law_1035 ?_
  refine lw_sld hx hb hXs hbl hbb hS (show ii + 2 < Ln by omega) hLn dL_law_1036 ?_
  rw [hq2]
  refine lv_aload_n hx hb dL_law_1037 rfl (lv_at hl 4 rfl) ?_
  have hMt := mL_ofWall_b1 l hst hX hO hoL hob v w hv
  rw [hx0] at hMt
  refine lw_S (As := [.ref x, .int v, .int w, .ref out]) (rest := []) hx hb hml hown hC hNc hS hAb hMt (fun q h => h.elim (hLb q) (fun h => h.elim (fun h => by rw [h]; exact hob) (hz0 q))) kW_L_138 ⟨rfl, rfl⟩ ⟨Nat.le_of_ble_eq_true rfl, Nat.le_of_ble_eq_true rfl⟩ rfl hl (Nat.le_of_ble_eq_true rfl) ⟨show cells + 1 ≤ 609960 by omega, show slots + 6 ≤ 7266223 by omega⟩ dL_law_1038 (fun H locs hB hS1 hz hkk => ?_)
  have hT := lt_x hX hM hx0 hm0 hdj hoL hoM hO hob hB hkk hS1
  obtain ⟨ly, L, ad, ly', L', ad', hX, hM, hx0, hm0, hdj, hoL, hoM, hO, hob, hS⟩ := hT
  have hLb := hX.2.2.1
  have hLbM := hM.2.2.1
  have hz0 : ∀ q, H.size ≤ q → bA E q := fun q z => by show E.2 0 ≤ q; rw [hE0]; exact Nat.le_trans hS.1 z
  refine lv_istore (lv' := [(5, .int (nI 1)), (4, .int (nI ii)), (0, .ref bb), (1, .ref x), (2, .ref mm), (3, .ref out)]) hx hb dL_law_1041 hl (by decide) rfl (fun ls hl => ?_)
  refine lv_aload_n hx hb dL_law_1043 rfl (lv_at hl 4 rfl) ?_
  refine lv_aload_n hx hb dL_law_1044 rfl (lv_at hl 2 rfl) ?_
  refine lv_iload hx hb dL_law_1045 (lv_at hl 1 rfl) ?_
  refine lv_iconstN hx hb 1 dL_law_1047 (by decide) ?_
  refine lv_iaddN hx hb dL_law_1048 ?_
  refine lw_sld hx hb hXs hbl hbb hS (show ii + 1 < Ln by omega) hLn dL_law_1049 ?_
  rw [hq1]
  refine lv_aload_n hx hb dL_law_1050 rfl (lv_at hl 2 rfl) ?_
  refine lv_iload hx hb dL_law_1051 (lv_at hl 1 rfl) ?_
  refine lv_iconstN hx hb 2 dL_law_1053 (by decide) ?_
  refine lv_iaddN hx hb dL_law_1054 ?_
  refine lw_sld hx hb hXs hbl hbb hS (show ii + 2 < Ln by omega) hLn dL_law_1055 ?_
  rw [hq2]
  have hMt := mX7_ofWall_b1 l hM v w hv
  rw [hm0] at hMt
  refine mu_V (As := [.int v, .int w]) (h0 := mm) (rest := []) (v := nI 0) hx hb hml hown hC hS hAb hMt (fun q h => h.elim (hLbM q) (hz0 q)) kV_L_141 ⟨rfl, rfl⟩ ⟨Nat.le_of_ble_eq_true rfl, Nat.le_of_ble_eq_true rfl⟩ (by rw [← hm0]; exact hM.1.recv hC cM_0 rfl) rfl hl (Nat.le_of_ble_eq_true rfl) ⟨show cells + 1 + 0 ≤ 609960 by omega, show slots + 6 + 0 ≤ 7266223 by omega⟩ dL_law_1056 (fun H locs hB hS1 hz hkk => ?_)
  have hT := lt_m hX hM hx0 hm0 hdj hoL hoM hO hob ⟨L', ly', ad', hB, hm0, fun q h => Or.inl h⟩ hkk hS1
  obtain ⟨ly, L, ad, ly', L', ad', hX, hM, hx0, hm0, hdj, hoL, hoM, hO, hob, hS⟩ := hT
  have hLb := hX.2.2.1
  have hLbM := hM.2.2.1
  have hz0 : ∀ q, H.size ≤ q → bA E q := fun q z => by show E.2 0 ≤ q; rw [hE0]; exact Nat.le_trans hS.1 z
  refine lv_istore (lv' := [(6, .int (nI 0)), (5, .int (nI 1)), (4, .int (nI ii)), (0, .ref bb), (1, .ref x), (2, .ref mm), (3, .ref out)]) hx hb dL_law_1059 hl (by decide) rfl (fun ls hl => ?_)
  refine lv_aload_n hx hb dL_law_1061 rfl (lv_at hl 5 rfl) ?_
  have hMt := mX7_thrown l hM
  rw [hm0] at hMt
  refine ro_V (As := []) (h0 := mm) (rest := []) (v := nI 1) hx hb hml hown hC hS hAb hMt kV_L_98 ⟨rfl, rfl⟩ ⟨Nat.le_of_ble_eq_true rfl, Nat.le_of_ble_eq_true rfl⟩ (by rw [← hm0]; exact hM.1.recv hC cM_0 rfl) rfl hl (Nat.le_of_ble_eq_true rfl) ⟨show cells + 1 + 0 ≤ 609960 by omega, show slots + 6 + 0 ≤ 7266223 by omega⟩ dL_law_1062 ?_
  refine lv_iload hx hb dL_law_1065 (lv_at hl 1 rfl) ?_
  refine lv_icmp_eq (tgt := 1072) hx hb dL_law_1067 (by decide) (fun _ => ?_) (fun c9 => absurd rfl c9)
  refine lv_iload hx hb dL_law_1072 (lv_at hl 1 rfl) ?_
  have hT : LT E s.heap x mm out _ _ _ _ H locs := ⟨ly, L, ad, ly', L', ad', hX, hM, hx0, hm0, hdj, hoL, hoM, hO, hob, hS⟩
  refine lv_if_ne (tgt := 1089) hx hb dL_law_1074 (by decide) (fun _ => ?_) (fun c9 => absurd c9 (by decide))
  refine lv_goto (tgt := 1820) hx hb dL_law_1089 (by decide) ?_
  refine W.widen (k := cells + 1100) (n := slots + 14000) (by omega) (by omega) ?_
  exact kk _ _ _ _ _ _ hT (lv_sub hl [2, 3, 4, 5, 6] rfl)
set_option maxHeartbeats 4000000 in
set_option maxRecDepth 100000 in
theorem lc_ofWall_b2 (C0 : LC p l s m co E bb Ln xs) {c : Cy} {th : Int32} {v0 : Int64} {H : Heap} {locs : List Loc} {x mm out : Nat} (hT : LT E s.heap x mm out c c th v0 H locs) {ii : Nat} (hii : ii + 7 ≤ Ln) {cells slots : Nat} (hcs : cells + 1100 ≤ 609960 ∧ slots + 14000 ≤ 7266223) {ls : Array Slot} (hl : lv_has ls 9 [(4, .int (nI ii)), (0, .ref bb), (1, .ref x), (2, .ref mm), (3, .ref out)]) (kk : KK p l e s m below meth co bb E Q x mm out ii cells slots) (i : Nat) (w : Int32) (hq1 : xs (ii + 1) = nI i) (hq2 : xs (ii + 2) = w) (hi : i < c.R 10 0) (hw : isInS w (nI 0) (nI 6) = false) : W p l e room_1 s m #[Value.ref bb] below meth co H locs cells slots Q (F0 m 1024 ls []) := by
  obtain ⟨hx, hb, hml, hown, hC, hNc, hXs, hbl, hE0, hst, hLn⟩ := C0
  have hAb : ∀ q, bA E q → bA E q := fun _ h => h
  have hbb : ¬ bA E bb := by show ¬ E.2 0 ≤ bb; rw [hE0]; exact Nat.not_le.mpr hbl
  obtain ⟨ly, L, ad, ly', L', ad', hX, hM, hx0, hm0, hdj, hoL, hoM, hO, hob, hS⟩ := hT
  have hLb := hX.2.2.1
  have hLbM := hM.2.2.1
  have hz0 : ∀ q, H.size ≤ q → bA E q := fun q z => by show E.2 0 ≤ q; rw [hE0]; exact Nat.le_trans hS.1 z
  refine lv_aload_n hx hb dL_law_1024 rfl (lv_at hl 2 rfl) ?_
  refine lv_aload_n hx hb dL_law_1025 rfl (lv_at hl 1 rfl) ?_
  refine lv_iload hx hb dL_law_1026 (lv_at hl 0 rfl) ?_
  refine lv_iconstN hx hb 1 dL_law_1028 (by decide) ?_
  refine lv_iaddN hx hb dL_law_1029 ?_
  refine lw_sld hx hb hXs hbl hbb hS (show ii + 1 < Ln by omega) hLn dL_law_1030 ?_
  rw [hq1]
  refine lv_aload_n hx hb dL_law_1031 rfl (lv_at hl 1 rfl) ?_
  refine lv_iload hx hb dL_law_1032 (lv_at hl 0 rfl) ?_
  refine lv_iconstN hx hb 2 dL_law_1034 (by decide) ?_
  refine lv_iaddN hx hb dL_law_1035 ?_
  refine lw_sld hx hb hXs hbl hbb hS (show ii + 2 < Ln by omega) hLn dL_law_1036 ?_
  rw [hq2]
  refine lv_aload_n hx hb dL_law_1037 rfl (lv_at hl 4 rfl) ?_
  have hMt := mL_ofWall_b2 l hst hX hO hoL hob i w hi hw
  rw [hx0] at hMt
  refine lw_S (As := [.ref x, .int (nI i), .int w, .ref out]) (rest := []) hx hb hml hown hC hNc hS hAb hMt (fun q h => h.elim (hLb q) (fun h => h.elim (fun h => by rw [h]; exact hob) (hz0 q))) kW_L_138 ⟨rfl, rfl⟩ ⟨Nat.le_of_ble_eq_true rfl, Nat.le_of_ble_eq_true rfl⟩ rfl hl (Nat.le_of_ble_eq_true rfl) ⟨show cells + 1 ≤ 609960 by omega, show slots + 6 ≤ 7266223 by omega⟩ dL_law_1038 (fun H locs hB hS1 hz hkk => ?_)
  have hT := lt_x hX hM hx0 hm0 hdj hoL hoM hO hob hB hkk hS1
  obtain ⟨ly, L, ad, ly', L', ad', hX, hM, hx0, hm0, hdj, hoL, hoM, hO, hob, hS⟩ := hT
  have hLb := hX.2.2.1
  have hLbM := hM.2.2.1
  have hz0 : ∀ q, H.size ≤ q → bA E q := fun q z => by show E.2 0 ≤ q; rw [hE0]; exact Nat.le_trans hS.1 z
  refine lv_istore (lv' := [(5, .int (nI 2)), (4, .int (nI ii)), (0, .ref bb), (1, .ref x), (2, .ref mm), (3, .ref out)]) hx hb dL_law_1041 hl (by decide) rfl (fun ls hl => ?_)
  refine lv_aload_n hx hb dL_law_1043 rfl (lv_at hl 4 rfl) ?_
  refine lv_aload_n hx hb dL_law_1044 rfl (lv_at hl 2 rfl) ?_
  refine lv_iload hx hb dL_law_1045 (lv_at hl 1 rfl) ?_
  refine lv_iconstN hx hb 1 dL_law_1047 (by decide) ?_
  refine lv_iaddN hx hb dL_law_1048 ?_
  refine lw_sld hx hb hXs hbl hbb hS (show ii + 1 < Ln by omega) hLn dL_law_1049 ?_
  rw [hq1]
  refine lv_aload_n hx hb dL_law_1050 rfl (lv_at hl 2 rfl) ?_
  refine lv_iload hx hb dL_law_1051 (lv_at hl 1 rfl) ?_
  refine lv_iconstN hx hb 2 dL_law_1053 (by decide) ?_
  refine lv_iaddN hx hb dL_law_1054 ?_
  refine lw_sld hx hb hXs hbl hbb hS (show ii + 2 < Ln by omega) hLn dL_law_1055 ?_
  rw [hq2]
  have hMt := mX7_ofWall_b2 l hM i w hi hw
  rw [hm0] at hMt
  refine mu_V (As := [.int (nI i), .int w]) (h0 := mm) (rest := []) (v := nI 0) hx hb hml hown hC hS hAb hMt (fun q h => h.elim (hLbM q) (hz0 q)) kV_L_141 ⟨rfl, rfl⟩ ⟨Nat.le_of_ble_eq_true rfl, Nat.le_of_ble_eq_true rfl⟩ (by rw [← hm0]; exact hM.1.recv hC cM_0 rfl) rfl hl (Nat.le_of_ble_eq_true rfl) ⟨show cells + 1 + 0 ≤ 609960 by omega, show slots + 6 + 0 ≤ 7266223 by omega⟩ dL_law_1056 (fun H locs hB hS1 hz hkk => ?_)
  have hT := lt_m hX hM hx0 hm0 hdj hoL hoM hO hob ⟨L', ly', ad', hB, hm0, fun q h => Or.inl h⟩ hkk hS1
  obtain ⟨ly, L, ad, ly', L', ad', hX, hM, hx0, hm0, hdj, hoL, hoM, hO, hob, hS⟩ := hT
  have hLb := hX.2.2.1
  have hLbM := hM.2.2.1
  have hz0 : ∀ q, H.size ≤ q → bA E q := fun q z => by show E.2 0 ≤ q; rw [hE0]; exact Nat.le_trans hS.1 z
  refine lv_istore (lv' := [(6, .int (nI 0)), (5, .int (nI 2)), (4, .int (nI ii)), (0, .ref bb), (1, .ref x), (2, .ref mm), (3, .ref out)]) hx hb dL_law_1059 hl (by decide) rfl (fun ls hl => ?_)
  refine lv_aload_n hx hb dL_law_1061 rfl (lv_at hl 5 rfl) ?_
  have hMt := mX7_thrown l hM
  rw [hm0] at hMt
  refine ro_V (As := []) (h0 := mm) (rest := []) (v := nI 2) hx hb hml hown hC hS hAb hMt kV_L_98 ⟨rfl, rfl⟩ ⟨Nat.le_of_ble_eq_true rfl, Nat.le_of_ble_eq_true rfl⟩ (by rw [← hm0]; exact hM.1.recv hC cM_0 rfl) rfl hl (Nat.le_of_ble_eq_true rfl) ⟨show cells + 1 + 0 ≤ 609960 by omega, show slots + 6 + 0 ≤ 7266223 by omega⟩ dL_law_1062 ?_
  refine lv_iload hx hb dL_law_1065 (lv_at hl 1 rfl) ?_
  refine lv_icmp_eq (tgt := 1072) hx hb dL_law_1067 (by decide) (fun _ => ?_) (fun c9 => absurd rfl c9)
  refine lv_iload hx hb dL_law_1072 (lv_at hl 1 rfl) ?_
  have hT : LT E s.heap x mm out _ _ _ _ H locs := ⟨ly, L, ad, ly', L', ad', hX, hM, hx0, hm0, hdj, hoL, hoM, hO, hob, hS⟩
  refine lv_if_ne (tgt := 1089) hx hb dL_law_1074 (by decide) (fun _ => ?_) (fun c9 => absurd c9 (by decide))
  refine lv_goto (tgt := 1820) hx hb dL_law_1089 (by decide) ?_
  refine W.widen (k := cells + 1100) (n := slots + 14000) (by omega) (by omega) ?_
  exact kk _ _ _ _ _ _ hT (lv_sub hl [2, 3, 4, 5, 6] rfl)
set_option maxHeartbeats 4000000 in
set_option maxRecDepth 100000 in
theorem lc_shows_g (C0 : LC p l s m co E bb Ln xs) {c : Cy} {th : Int32} {v0 : Int64} {H : Heap} {locs : List Loc} {x mm out : Nat} (hT : LT E s.heap x mm out c c th v0 H locs) {ii : Nat} (hii : ii + 7 ≤ Ln) {cells slots : Nat} (hcs : cells + 1100 ≤ 609960 ∧ slots + 14000 ≤ 7266223) {ls : Array Slot} (hl : lv_has ls 9 [(4, .int (nI ii)), (0, .ref bb), (1, .ref x), (2, .ref mm), (3, .ref out)]) (kk : KK p l e s m below meth co bb E Q x mm out ii cells slots) (i k : Nat) (hq1 : xs (ii + 1) = nI i) (hq2 : xs (ii + 2) = nI k) (hi : i < c.R 10 0) (hk : k < c.R 1 i) : W p l e room_1 s m #[Value.ref bb] below meth co H locs cells slots Q (F0 m 1092 ls []) := by
  obtain ⟨hx, hb, hml, hown, hC, hNc, hXs, hbl, hE0, hst, hLn⟩ := C0
  have hAb : ∀ q, bA E q → bA E q := fun _ h => h
  have hbb : ¬ bA E bb := by show ¬ E.2 0 ≤ bb; rw [hE0]; exact Nat.not_le.mpr hbl
  obtain ⟨ly, L, ad, ly', L', ad', hX, hM, hx0, hm0, hdj, hoL, hoM, hO, hob, hS⟩ := hT
  have hLb := hX.2.2.1
  have hLbM := hM.2.2.1
  have hz0 : ∀ q, H.size ≤ q → bA E q := fun q z => by show E.2 0 ≤ q; rw [hE0]; exact Nat.le_trans hS.1 z
  refine lv_aload_n hx hb dL_law_1092 rfl (lv_at hl 2 rfl) ?_
  refine lv_aload_n hx hb dL_law_1093 rfl (lv_at hl 1 rfl) ?_
  refine lv_iload hx hb dL_law_1094 (lv_at hl 0 rfl) ?_
  refine lv_iconstN hx hb 1 dL_law_1096 (by decide) ?_
  refine lv_iaddN hx hb dL_law_1097 ?_
  refine lw_sld hx hb hXs hbl hbb hS (show ii + 1 < Ln by omega) hLn dL_law_1098 ?_
  rw [hq1]
  refine lv_aload_n hx hb dL_law_1099 rfl (lv_at hl 1 rfl) ?_
  refine lv_iload hx hb dL_law_1100 (lv_at hl 0 rfl) ?_
  refine lv_iconstN hx hb 2 dL_law_1102 (by decide) ?_
  refine lv_iaddN hx hb dL_law_1103 ?_
  refine lw_sld hx hb hXs hbl hbb hS (show ii + 2 < Ln by omega) hLn dL_law_1104 ?_
  rw [hq2]
  refine lv_aload_n hx hb dL_law_1105 rfl (lv_at hl 4 rfl) ?_
  have hMt := mL_shows_g l hX hO hoL hob i k hi hk
  rw [hx0] at hMt
  refine lw_S (As := [.ref x, .int (nI i), .int (nI k), .ref out]) (rest := []) hx hb hml hown hC hNc hS hAb hMt (fun q h => h.elim (hLb q) (fun h => h.elim (fun h => by rw [h]; exact hob) (hz0 q))) kW_L_142 ⟨rfl, rfl⟩ ⟨Nat.le_of_ble_eq_true rfl, Nat.le_of_ble_eq_true rfl⟩ rfl hl (Nat.le_of_ble_eq_true rfl) ⟨show cells + 0 ≤ 609960 by omega, show slots + 0 ≤ 7266223 by omega⟩ dL_law_1106 (fun H locs hB hS1 hz hkk => ?_)
  have hT := lt_x hX hM hx0 hm0 hdj hoL hoM hO hob hB hkk hS1
  obtain ⟨ly, L, ad, ly', L', ad', hX, hM, hx0, hm0, hdj, hoL, hoM, hO, hob, hS⟩ := hT
  have hLb := hX.2.2.1
  have hLbM := hM.2.2.1
  have hz0 : ∀ q, H.size ≤ q → bA E q := fun q z => by show E.2 0 ≤ q; rw [hE0]; exact Nat.le_trans hS.1 z
  refine lv_istore (lv' := [(5, .int (nI 0)), (4, .int (nI ii)), (0, .ref bb), (1, .ref x), (2, .ref mm), (3, .ref out)]) hx hb dL_law_1109 hl (by decide) rfl (fun ls hl => ?_)
  refine lv_aload_n hx hb dL_law_1111 rfl (lv_at hl 4 rfl) ?_
  refine lv_aload_n hx hb dL_law_1112 rfl (lv_at hl 2 rfl) ?_
  refine lv_iload hx hb dL_law_1113 (lv_at hl 1 rfl) ?_
  refine lv_iconstN hx hb 1 dL_law_1115 (by decide) ?_
  refine lv_iaddN hx hb dL_law_1116 ?_
  refine lw_sld hx hb hXs hbl hbb hS (show ii + 1 < Ln by omega) hLn dL_law_1117 ?_
  rw [hq1]
  refine lv_aload_n hx hb dL_law_1118 rfl (lv_at hl 2 rfl) ?_
  refine lv_iload hx hb dL_law_1119 (lv_at hl 1 rfl) ?_
  refine lv_iconstN hx hb 2 dL_law_1121 (by decide) ?_
  refine lv_iaddN hx hb dL_law_1122 ?_
  refine lw_sld hx hb hXs hbl hbb hS (show ii + 2 < Ln by omega) hLn dL_law_1123 ?_
  rw [hq2]
  have hMt := mX7_shows_g l hM i k hi hk
  rw [hm0] at hMt
  refine mu_V (As := [.int (nI i), .int (nI k)]) (h0 := mm) (rest := []) (v := shI c i k) hx hb hml hown hC hS hAb hMt (fun q h => h.elim (hLbM q) (hz0 q)) kV_L_144 ⟨rfl, rfl⟩ ⟨Nat.le_of_ble_eq_true rfl, Nat.le_of_ble_eq_true rfl⟩ (by rw [← hm0]; exact hM.1.recv hC cM_0 rfl) rfl hl (Nat.le_of_ble_eq_true rfl) ⟨show cells + 0 ≤ 609960 by omega, show slots + 0 ≤ 7266223 by omega⟩ dL_law_1124 (fun H locs hB hS1 hz hkk => ?_)
  have hT := lt_m hX hM hx0 hm0 hdj hoL hoM hO hob ⟨L', ly', ad', hB, hm0, fun q h => Or.inl h⟩ hkk hS1
  obtain ⟨ly, L, ad, ly', L', ad', hX, hM, hx0, hm0, hdj, hoL, hoM, hO, hob, hS⟩ := hT
  have hLb := hX.2.2.1
  have hLbM := hM.2.2.1
  have hz0 : ∀ q, H.size ≤ q → bA E q := fun q z => by show E.2 0 ≤ q; rw [hE0]; exact Nat.le_trans hS.1 z
  refine lv_istore (lv' := [(6, .int (shI c i k)), (5, .int (nI 0)), (4, .int (nI ii)), (0, .ref bb), (1, .ref x), (2, .ref mm), (3, .ref out)]) hx hb dL_law_1127 hl (by decide) rfl (fun ls hl => ?_)
  refine lv_aload_n hx hb dL_law_1129 rfl (lv_at hl 5 rfl) ?_
  have hMt := mX7_thrown l hM
  rw [hm0] at hMt
  refine ro_V (As := []) (h0 := mm) (rest := []) (v := nI 0) hx hb hml hown hC hS hAb hMt kV_L_98 ⟨rfl, rfl⟩ ⟨Nat.le_of_ble_eq_true rfl, Nat.le_of_ble_eq_true rfl⟩ (by rw [← hm0]; exact hM.1.recv hC cM_0 rfl) rfl hl (Nat.le_of_ble_eq_true rfl) ⟨show cells + 0 ≤ 609960 by omega, show slots + 0 ≤ 7266223 by omega⟩ dL_law_1130 ?_
  refine lv_iload hx hb dL_law_1133 (lv_at hl 1 rfl) ?_
  refine lv_icmp_eq (tgt := 1140) hx hb dL_law_1135 (by decide) (fun _ => ?_) (fun c9 => absurd rfl c9)
  refine lv_iload hx hb dL_law_1140 (lv_at hl 1 rfl) ?_
  have hT : LT E s.heap x mm out _ _ _ _ H locs := ⟨ly, L, ad, ly', L', ad', hX, hM, hx0, hm0, hdj, hoL, hoM, hO, hob, hS⟩
  refine lv_if_ne (tgt := 1157) hx hb dL_law_1142 (by decide) (fun c9 => absurd (by decide) c9) (fun _ => ?_)
  refine lv_aload_n hx hb dL_law_1145 rfl (lv_at hl 6 rfl) ?_
  refine lv_iconstN hx hb 0 dL_law_1146 (by decide) ?_
  refine lw_lald hx hb hC hO dL_law_1147 ?_
  refine lv_iload hx hb dL_law_1148 (lv_at hl 0 rfl) ?_
  refine lv_i2l (v := (shI c i k).toInt64) hx hb dL_law_1150 rfl ?_
  refine W.lcmp hx hb dL_law_1151 ?_
  rw [lg_self]
  refine lv_if_eq (tgt := 1157) hx hb dL_law_1152 (by decide) (fun _ => ?_) (fun c9 => absurd rfl c9)
  refine lv_goto (tgt := 1820) hx hb dL_law_1157 (by decide) ?_
  refine W.widen (k := cells + 1100) (n := slots + 14000) (by omega) (by omega) ?_
  exact kk _ _ _ _ _ _ hT (lv_sub hl [2, 3, 4, 5, 6] rfl)
set_option maxHeartbeats 4000000 in
set_option maxRecDepth 100000 in
theorem lc_shows_b1 (C0 : LC p l s m co E bb Ln xs) {c : Cy} {th : Int32} {v0 : Int64} {H : Heap} {locs : List Loc} {x mm out : Nat} (hT : LT E s.heap x mm out c c th v0 H locs) {ii : Nat} (hii : ii + 7 ≤ Ln) {cells slots : Nat} (hcs : cells + 1100 ≤ 609960 ∧ slots + 14000 ≤ 7266223) {ls : Array Slot} (hl : lv_has ls 9 [(4, .int (nI ii)), (0, .ref bb), (1, .ref x), (2, .ref mm), (3, .ref out)]) (kk : KK p l e s m below meth co bb E Q x mm out ii cells slots) (v w : Int32) (hq1 : xs (ii + 1) = v) (hq2 : xs (ii + 2) = w) (hv : isInS v (nI 0) (nI (c.R 10 0) - nI 1) = false) : W p l e room_1 s m #[Value.ref bb] below meth co H locs cells slots Q (F0 m 1092 ls []) := by
  obtain ⟨hx, hb, hml, hown, hC, hNc, hXs, hbl, hE0, hst, hLn⟩ := C0
  have hAb : ∀ q, bA E q → bA E q := fun _ h => h
  have hbb : ¬ bA E bb := by show ¬ E.2 0 ≤ bb; rw [hE0]; exact Nat.not_le.mpr hbl
  obtain ⟨ly, L, ad, ly', L', ad', hX, hM, hx0, hm0, hdj, hoL, hoM, hO, hob, hS⟩ := hT
  have hLb := hX.2.2.1
  have hLbM := hM.2.2.1
  have hz0 : ∀ q, H.size ≤ q → bA E q := fun q z => by show E.2 0 ≤ q; rw [hE0]; exact Nat.le_trans hS.1 z
  refine lv_aload_n hx hb dL_law_1092 rfl (lv_at hl 2 rfl) ?_
  refine lv_aload_n hx hb dL_law_1093 rfl (lv_at hl 1 rfl) ?_
  refine lv_iload hx hb dL_law_1094 (lv_at hl 0 rfl) ?_
  refine lv_iconstN hx hb 1 dL_law_1096 (by decide) ?_
  refine lv_iaddN hx hb dL_law_1097 ?_
  refine lw_sld hx hb hXs hbl hbb hS (show ii + 1 < Ln by omega) hLn dL_law_1098 ?_
  rw [hq1]
  refine lv_aload_n hx hb dL_law_1099 rfl (lv_at hl 1 rfl) ?_
  refine lv_iload hx hb dL_law_1100 (lv_at hl 0 rfl) ?_
  refine lv_iconstN hx hb 2 dL_law_1102 (by decide) ?_
  refine lv_iaddN hx hb dL_law_1103 ?_
  refine lw_sld hx hb hXs hbl hbb hS (show ii + 2 < Ln by omega) hLn dL_law_1104 ?_
  rw [hq2]
  refine lv_aload_n hx hb dL_law_1105 rfl (lv_at hl 4 rfl) ?_
  have hMt := mL_shows_b1 l hst hX hO hoL hob v w hv
  rw [hx0] at hMt
  refine lw_S (As := [.ref x, .int v, .int w, .ref out]) (rest := []) hx hb hml hown hC hNc hS hAb hMt (fun q h => h.elim (hLb q) (fun h => h.elim (fun h => by rw [h]; exact hob) (hz0 q))) kW_L_142 ⟨rfl, rfl⟩ ⟨Nat.le_of_ble_eq_true rfl, Nat.le_of_ble_eq_true rfl⟩ rfl hl (Nat.le_of_ble_eq_true rfl) ⟨show cells + 1 ≤ 609960 by omega, show slots + 6 ≤ 7266223 by omega⟩ dL_law_1106 (fun H locs hB hS1 hz hkk => ?_)
  have hT := lt_x hX hM hx0 hm0 hdj hoL hoM hO hob hB hkk hS1
  obtain ⟨ly, L, ad, ly', L', ad', hX, hM, hx0, hm0, hdj, hoL, hoM, hO, hob, hS⟩ := hT
  have hLb := hX.2.2.1
  have hLbM := hM.2.2.1
  have hz0 : ∀ q, H.size ≤ q → bA E q := fun q z => by show E.2 0 ≤ q; rw [hE0]; exact Nat.le_trans hS.1 z
  refine lv_istore (lv' := [(5, .int (nI 1)), (4, .int (nI ii)), (0, .ref bb), (1, .ref x), (2, .ref mm), (3, .ref out)]) hx hb dL_law_1109 hl (by decide) rfl (fun ls hl => ?_)
  refine lv_aload_n hx hb dL_law_1111 rfl (lv_at hl 4 rfl) ?_
  refine lv_aload_n hx hb dL_law_1112 rfl (lv_at hl 2 rfl) ?_
  refine lv_iload hx hb dL_law_1113 (lv_at hl 1 rfl) ?_
  refine lv_iconstN hx hb 1 dL_law_1115 (by decide) ?_
  refine lv_iaddN hx hb dL_law_1116 ?_
  refine lw_sld hx hb hXs hbl hbb hS (show ii + 1 < Ln by omega) hLn dL_law_1117 ?_
  rw [hq1]
  refine lv_aload_n hx hb dL_law_1118 rfl (lv_at hl 2 rfl) ?_
  refine lv_iload hx hb dL_law_1119 (lv_at hl 1 rfl) ?_
  refine lv_iconstN hx hb 2 dL_law_1121 (by decide) ?_
  refine lv_iaddN hx hb dL_law_1122 ?_
  refine lw_sld hx hb hXs hbl hbb hS (show ii + 2 < Ln by omega) hLn dL_law_1123 ?_
  rw [hq2]
  have hMt := mX7_shows_b1 l hM v w hv
  rw [hm0] at hMt
  refine mu_V (As := [.int v, .int w]) (h0 := mm) (rest := []) (v := nI 0) hx hb hml hown hC hS hAb hMt (fun q h => h.elim (hLbM q) (hz0 q)) kV_L_144 ⟨rfl, rfl⟩ ⟨Nat.le_of_ble_eq_true rfl, Nat.le_of_ble_eq_true rfl⟩ (by rw [← hm0]; exact hM.1.recv hC cM_0 rfl) rfl hl (Nat.le_of_ble_eq_true rfl) ⟨show cells + 1 + 0 ≤ 609960 by omega, show slots + 6 + 0 ≤ 7266223 by omega⟩ dL_law_1124 (fun H locs hB hS1 hz hkk => ?_)
  have hT := lt_m hX hM hx0 hm0 hdj hoL hoM hO hob ⟨L', ly', ad', hB, hm0, fun q h => Or.inl h⟩ hkk hS1
  obtain ⟨ly, L, ad, ly', L', ad', hX, hM, hx0, hm0, hdj, hoL, hoM, hO, hob, hS⟩ := hT
  have hLb := hX.2.2.1
  have hLbM := hM.2.2.1
  have hz0 : ∀ q, H.size ≤ q → bA E q := fun q z => by show E.2 0 ≤ q; rw [hE0]; exact Nat.le_trans hS.1 z
  refine lv_istore (lv' := [(6, .int (nI 0)), (5, .int (nI 1)), (4, .int (nI ii)), (0, .ref bb), (1, .ref x), (2, .ref mm), (3, .ref out)]) hx hb dL_law_1127 hl (by decide) rfl (fun ls hl => ?_)
  refine lv_aload_n hx hb dL_law_1129 rfl (lv_at hl 5 rfl) ?_
  have hMt := mX7_thrown l hM
  rw [hm0] at hMt
  refine ro_V (As := []) (h0 := mm) (rest := []) (v := nI 1) hx hb hml hown hC hS hAb hMt kV_L_98 ⟨rfl, rfl⟩ ⟨Nat.le_of_ble_eq_true rfl, Nat.le_of_ble_eq_true rfl⟩ (by rw [← hm0]; exact hM.1.recv hC cM_0 rfl) rfl hl (Nat.le_of_ble_eq_true rfl) ⟨show cells + 1 + 0 ≤ 609960 by omega, show slots + 6 + 0 ≤ 7266223 by omega⟩ dL_law_1130 ?_
  refine lv_iload hx hb dL_law_1133 (lv_at hl 1 rfl) ?_
  refine lv_icmp_eq (tgt := 1140) hx hb dL_law_1135 (by decide) (fun _ => ?_) (fun c9 => absurd rfl c9)
  refine lv_iload hx hb dL_law_1140 (lv_at hl 1 rfl) ?_
  have hT : LT E s.heap x mm out _ _ _ _ H locs := ⟨ly, L, ad, ly', L', ad', hX, hM, hx0, hm0, hdj, hoL, hoM, hO, hob, hS⟩
  refine lv_if_ne (tgt := 1157) hx hb dL_law_1142 (by decide) (fun _ => ?_) (fun c9 => absurd c9 (by decide))
  refine lv_goto (tgt := 1820) hx hb dL_law_1157 (by decide) ?_
  refine W.widen (k := cells + 1100) (n := slots + 14000) (by omega) (by omega) ?_
  exact kk _ _ _ _ _ _ hT (lv_sub hl [2, 3, 4, 5, 6] rfl)
set_option maxHeartbeats 4000000 in
set_option maxRecDepth 100000 in
theorem lc_shows_b2 (C0 : LC p l s m co E bb Ln xs) {c : Cy} {th : Int32} {v0 : Int64} {H : Heap} {locs : List Loc} {x mm out : Nat} (hT : LT E s.heap x mm out c c th v0 H locs) {ii : Nat} (hii : ii + 7 ≤ Ln) {cells slots : Nat} (hcs : cells + 1100 ≤ 609960 ∧ slots + 14000 ≤ 7266223) {ls : Array Slot} (hl : lv_has ls 9 [(4, .int (nI ii)), (0, .ref bb), (1, .ref x), (2, .ref mm), (3, .ref out)]) (kk : KK p l e s m below meth co bb E Q x mm out ii cells slots) (i : Nat) (w : Int32) (hq1 : xs (ii + 1) = nI i) (hq2 : xs (ii + 2) = w) (hi : i < c.R 10 0) (hw : isInS w (nI 0) (nI (c.R 1 i) - nI 1) = false) : W p l e room_1 s m #[Value.ref bb] below meth co H locs cells slots Q (F0 m 1092 ls []) := by
  obtain ⟨hx, hb, hml, hown, hC, hNc, hXs, hbl, hE0, hst, hLn⟩ := C0
  have hAb : ∀ q, bA E q → bA E q := fun _ h => h
  have hbb : ¬ bA E bb := by show ¬ E.2 0 ≤ bb; rw [hE0]; exact Nat.not_le.mpr hbl
  obtain ⟨ly, L, ad, ly', L', ad', hX, hM, hx0, hm0, hdj, hoL, hoM, hO, hob, hS⟩ := hT
  have hLb := hX.2.2.1
  have hLbM := hM.2.2.1
  have hz0 : ∀ q, H.size ≤ q → bA E q := fun q z => by show E.2 0 ≤ q; rw [hE0]; exact Nat.le_trans hS.1 z
  refine lv_aload_n hx hb dL_law_1092 rfl (lv_at hl 2 rfl) ?_
  refine lv_aload_n hx hb dL_law_1093 rfl (lv_at hl 1 rfl) ?_
  refine lv_iload hx hb dL_law_1094 (lv_at hl 0 rfl) ?_
  refine lv_iconstN hx hb 1 dL_law_1096 (by decide) ?_
  refine lv_iaddN hx hb dL_law_1097 ?_
  refine lw_sld hx hb hXs hbl hbb hS (show ii + 1 < Ln by omega) hLn dL_law_1098 ?_
  rw [hq1]
  refine lv_aload_n hx hb dL_law_1099 rfl (lv_at hl 1 rfl) ?_
  refine lv_iload hx hb dL_law_1100 (lv_at hl 0 rfl) ?_
  refine lv_iconstN hx hb 2 dL_law_1102 (by decide) ?_
  refine lv_iaddN hx hb dL_law_1103 ?_
  refine lw_sld hx hb hXs hbl hbb hS (show ii + 2 < Ln by omega) hLn dL_law_1104 ?_
  rw [hq2]
  refine lv_aload_n hx hb dL_law_1105 rfl (lv_at hl 4 rfl) ?_
  have hMt := mL_shows_b2 l hst hX hO hoL hob i w hi hw
  rw [hx0] at hMt
  refine lw_S (As := [.ref x, .int (nI i), .int w, .ref out]) (rest := []) hx hb hml hown hC hNc hS hAb hMt (fun q h => h.elim (hLb q) (fun h => h.elim (fun h => by rw [h]; exact hob) (hz0 q))) kW_L_142 ⟨rfl, rfl⟩ ⟨Nat.le_of_ble_eq_true rfl, Nat.le_of_ble_eq_true rfl⟩ rfl hl (Nat.le_of_ble_eq_true rfl) ⟨show cells + 1 ≤ 609960 by omega, show slots + 6 ≤ 7266223 by omega⟩ dL_law_1106 (fun H locs hB hS1 hz hkk => ?_)
  have hT := lt_x hX hM hx0 hm0 hdj hoL hoM hO hob hB hkk hS1
  obtain ⟨ly, L, ad, ly', L', ad', hX, hM, hx0, hm0, hdj, hoL, hoM, hO, hob, hS⟩ := hT
  have hLb := hX.2.2.1
  have hLbM := hM.2.2.1
  have hz0 : ∀ q, H.size ≤ q → bA E q := fun q z => by show E.2 0 ≤ q; rw [hE0]; exact Nat.le_trans hS.1 z
  refine lv_istore (lv' := [(5, .int (nI 1)), (4, .int (nI ii)), (0, .ref bb), (1, .ref x), (2, .ref mm), (3, .ref out)]) hx hb dL_law_1109 hl (by decide) rfl (fun ls hl => ?_)
  refine lv_aload_n hx hb dL_law_1111 rfl (lv_at hl 4 rfl) ?_
  refine lv_aload_n hx hb dL_law_1112 rfl (lv_at hl 2 rfl) ?_
  refine lv_iload hx hb dL_law_1113 (lv_at hl 1 rfl) ?_
  refine lv_iconstN hx hb 1 dL_law_1115 (by decide) ?_
  refine lv_iaddN hx hb dL_law_1116 ?_
  refine lw_sld hx hb hXs hbl hbb hS (show ii + 1 < Ln by omega) hLn dL_law_1117 ?_
  rw [hq1]
  refine lv_aload_n hx hb dL_law_1118 rfl (lv_at hl 2 rfl) ?_
  refine lv_iload hx hb dL_law_1119 (lv_at hl 1 rfl) ?_
  refine lv_iconstN hx hb 2 dL_law_1121 (by decide) ?_
  refine lv_iaddN hx hb dL_law_1122 ?_
  refine lw_sld hx hb hXs hbl hbb hS (show ii + 2 < Ln by omega) hLn dL_law_1123 ?_
  rw [hq2]
  have hMt := mX7_shows_b2 l hM i w hi hw
  rw [hm0] at hMt
  refine mu_V (As := [.int (nI i), .int w]) (h0 := mm) (rest := []) (v := nI 0) hx hb hml hown hC hS hAb hMt (fun q h => h.elim (hLbM q) (hz0 q)) kV_L_144 ⟨rfl, rfl⟩ ⟨Nat.le_of_ble_eq_true rfl, Nat.le_of_ble_eq_true rfl⟩ (by rw [← hm0]; exact hM.1.recv hC cM_0 rfl) rfl hl (Nat.le_of_ble_eq_true rfl) ⟨show cells + 1 + 0 ≤ 609960 by omega, show slots + 6 + 0 ≤ 7266223 by omega⟩ dL_law_1124 (fun H locs hB hS1 hz hkk => ?_)
  have hT := lt_m hX hM hx0 hm0 hdj hoL hoM hO hob ⟨L', ly', ad', hB, hm0, fun q h => Or.inl h⟩ hkk hS1
  obtain ⟨ly, L, ad, ly', L', ad', hX, hM, hx0, hm0, hdj, hoL, hoM, hO, hob, hS⟩ := hT
  have hLb := hX.2.2.1
  have hLbM := hM.2.2.1
  have hz0 : ∀ q, H.size ≤ q → bA E q := fun q z => by show E.2 0 ≤ q; rw [hE0]; exact Nat.le_trans hS.1 z
  refine lv_istore (lv' := [(6, .int (nI 0)), (5, .int (nI 1)), (4, .int (nI ii)), (0, .ref bb), (1, .ref x), (2, .ref mm), (3, .ref out)]) hx hb dL_law_1127 hl (by decide) rfl (fun ls hl => ?_)
  refine lv_aload_n hx hb dL_law_1129 rfl (lv_at hl 5 rfl) ?_
  have hMt := mX7_thrown l hM
  rw [hm0] at hMt
  refine ro_V (As := []) (h0 := mm) (rest := []) (v := nI 1) hx hb hml hown hC hS hAb hMt kV_L_98 ⟨rfl, rfl⟩ ⟨Nat.le_of_ble_eq_true rfl, Nat.le_of_ble_eq_true rfl⟩ (by rw [← hm0]; exact hM.1.recv hC cM_0 rfl) rfl hl (Nat.le_of_ble_eq_true rfl) ⟨show cells + 1 + 0 ≤ 609960 by omega, show slots + 6 + 0 ≤ 7266223 by omega⟩ dL_law_1130 ?_
  refine lv_iload hx hb dL_law_1133 (lv_at hl 1 rfl) ?_
  refine lv_icmp_eq (tgt := 1140) hx hb dL_law_1135 (by decide) (fun _ => ?_) (fun c9 => absurd rfl c9)
  refine lv_iload hx hb dL_law_1140 (lv_at hl 1 rfl) ?_
  have hT : LT E s.heap x mm out _ _ _ _ H locs := ⟨ly, L, ad, ly', L', ad', hX, hM, hx0, hm0, hdj, hoL, hoM, hO, hob, hS⟩
  refine lv_if_ne (tgt := 1157) hx hb dL_law_1142 (by decide) (fun _ => ?_) (fun c9 => absurd c9 (by decide))
  refine lv_goto (tgt := 1820) hx hb dL_law_1157 (by decide) ?_
  refine W.widen (k := cells + 1100) (n := slots + 14000) (by omega) (by omega) ?_
  exact kk _ _ _ _ _ _ hT (lv_sub hl [2, 3, 4, 5, 6] rfl)
set_option maxHeartbeats 4000000 in
set_option maxRecDepth 100000 in
theorem lc_ofHand_g (C0 : LC p l s m co E bb Ln xs) {c : Cy} {th : Int32} {v0 : Int64} {H : Heap} {locs : List Loc} {x mm out : Nat} (hT : LT E s.heap x mm out c c th v0 H locs) {ii : Nat} (hii : ii + 7 ≤ Ln) {cells slots : Nat} (hcs : cells + 1100 ≤ 609960 ∧ slots + 14000 ≤ 7266223) {ls : Array Slot} (hl : lv_has ls 9 [(4, .int (nI ii)), (0, .ref bb), (1, .ref x), (2, .ref mm), (3, .ref out)]) (kk : KK p l e s m below meth co bb E Q x mm out ii cells slots) (h w : Nat) (hq1 : xs (ii + 1) = nI h) (hq2 : xs (ii + 2) = nI w) (hh : h < c.R 10 1) (hw : w ≤ 10) : W p l e room_1 s m #[Value.ref bb] below meth co H locs cells slots Q (F0 m 1160 ls []) := by
  obtain ⟨hx, hb, hml, hown, hC, hNc, hXs, hbl, hE0, hst, hLn⟩ := C0
  have hAb : ∀ q, bA E q → bA E q := fun _ h => h
  have hbb : ¬ bA E bb := by show ¬ E.2 0 ≤ bb; rw [hE0]; exact Nat.not_le.mpr hbl
  obtain ⟨ly, L, ad, ly', L', ad', hX, hM, hx0, hm0, hdj, hoL, hoM, hO, hob, hS⟩ := hT
  have hLb := hX.2.2.1
  have hLbM := hM.2.2.1
  have hz0 : ∀ q, H.size ≤ q → bA E q := fun q z => by show E.2 0 ≤ q; rw [hE0]; exact Nat.le_trans hS.1 z
  refine lv_aload_n hx hb dL_law_1160 rfl (lv_at hl 2 rfl) ?_
  refine lv_aload_n hx hb dL_law_1161 rfl (lv_at hl 1 rfl) ?_
  refine lv_iload hx hb dL_law_1162 (lv_at hl 0 rfl) ?_
  refine lv_iconstN hx hb 1 dL_law_1164 (by decide) ?_
  refine lv_iaddN hx hb dL_law_1165 ?_
  refine lw_sld hx hb hXs hbl hbb hS (show ii + 1 < Ln by omega) hLn dL_law_1166 ?_
  rw [hq1]
  refine lv_aload_n hx hb dL_law_1167 rfl (lv_at hl 1 rfl) ?_
  refine lv_iload hx hb dL_law_1168 (lv_at hl 0 rfl) ?_
  refine lv_iconstN hx hb 2 dL_law_1170 (by decide) ?_
  refine lv_iaddN hx hb dL_law_1171 ?_
  refine lw_sld hx hb hXs hbl hbb hS (show ii + 2 < Ln by omega) hLn dL_law_1172 ?_
  rw [hq2]
  refine lv_aload_n hx hb dL_law_1173 rfl (lv_at hl 4 rfl) ?_
  have hMt := mL_ofHand_g l hX hO hoL hob h w hh hw
  rw [hx0] at hMt
  refine lw_S (As := [.ref x, .int (nI h), .int (nI w), .ref out]) (rest := []) hx hb hml hown hC hNc hS hAb hMt (fun q h => h.elim (hLb q) (fun h => h.elim (fun h => by rw [h]; exact hob) (hz0 q))) kW_L_145 ⟨rfl, rfl⟩ ⟨Nat.le_of_ble_eq_true rfl, Nat.le_of_ble_eq_true rfl⟩ rfl hl (Nat.le_of_ble_eq_true rfl) ⟨show cells + 0 ≤ 609960 by omega, show slots + 0 ≤ 7266223 by omega⟩ dL_law_1174 (fun H locs hB hS1 hz hkk => ?_)
  have hT := lt_x hX hM hx0 hm0 hdj hoL hoM hO hob hB hkk hS1
  obtain ⟨ly, L, ad, ly', L', ad', hX, hM, hx0, hm0, hdj, hoL, hoM, hO, hob, hS⟩ := hT
  have hLb := hX.2.2.1
  have hLbM := hM.2.2.1
  have hz0 : ∀ q, H.size ≤ q → bA E q := fun q z => by show E.2 0 ≤ q; rw [hE0]; exact Nat.le_trans hS.1 z
  refine lv_istore (lv' := [(5, .int (nI 0)), (4, .int (nI ii)), (0, .ref bb), (1, .ref x), (2, .ref mm), (3, .ref out)]) hx hb dL_law_1177 hl (by decide) rfl (fun ls hl => ?_)
  refine lv_aload_n hx hb dL_law_1179 rfl (lv_at hl 4 rfl) ?_
  refine lv_aload_n hx hb dL_law_1180 rfl (lv_at hl 2 rfl) ?_
  refine lv_iload hx hb dL_law_1181 (lv_at hl 1 rfl) ?_
  refine lv_iconstN hx hb 1 dL_law_1183 (by decide) ?_
  refine lv_iaddN hx hb dL_law_1184 ?_
  refine lw_sld hx hb hXs hbl hbb hS (show ii + 1 < Ln by omega) hLn dL_law_1185 ?_
  rw [hq1]
  refine lv_aload_n hx hb dL_law_1186 rfl (lv_at hl 2 rfl) ?_
  refine lv_iload hx hb dL_law_1187 (lv_at hl 1 rfl) ?_
  refine lv_iconstN hx hb 2 dL_law_1189 (by decide) ?_
  refine lv_iaddN hx hb dL_law_1190 ?_
  refine lw_sld hx hb hXs hbl hbb hS (show ii + 2 < Ln by omega) hLn dL_law_1191 ?_
  rw [hq2]
  have hMt := mX7_ofHand_g l hM h w hh hw
  rw [hm0] at hMt
  refine mu_V (As := [.int (nI h), .int (nI w)]) (h0 := mm) (rest := []) (v := ohS c h (nI w)) hx hb hml hown hC hS hAb hMt (fun q h => h.elim (hLbM q) (hz0 q)) kV_L_147 ⟨rfl, rfl⟩ ⟨Nat.le_of_ble_eq_true rfl, Nat.le_of_ble_eq_true rfl⟩ (by rw [← hm0]; exact hM.1.recv hC cM_0 rfl) rfl hl (Nat.le_of_ble_eq_true rfl) ⟨show cells + 1 ≤ 609960 by omega, show slots + 4 ≤ 7266223 by omega⟩ dL_law_1192 (fun H locs hB hS1 hz hkk => ?_)
  have hT := lt_m hX hM hx0 hm0 hdj hoL hoM hO hob ⟨L', ly', ad', hB, hm0, fun q h => Or.inl h⟩ hkk hS1
  obtain ⟨ly, L, ad, ly', L', ad', hX, hM, hx0, hm0, hdj, hoL, hoM, hO, hob, hS⟩ := hT
  have hLb := hX.2.2.1
  have hLbM := hM.2.2.1
  have hz0 : ∀ q, H.size ≤ q → bA E q := fun q z => by show E.2 0 ≤ q; rw [hE0]; exact Nat.le_trans hS.1 z
  refine lv_istore (lv' := [(6, .int (ohS c h (nI w))), (5, .int (nI 0)), (4, .int (nI ii)), (0, .ref bb), (1, .ref x), (2, .ref mm), (3, .ref out)]) hx hb dL_law_1195 hl (by decide) rfl (fun ls hl => ?_)
  refine lv_aload_n hx hb dL_law_1197 rfl (lv_at hl 5 rfl) ?_
  have hMt := mX7_thrown l hM
  rw [hm0] at hMt
  refine ro_V (As := []) (h0 := mm) (rest := []) (v := nI 0) hx hb hml hown hC hS hAb hMt kV_L_98 ⟨rfl, rfl⟩ ⟨Nat.le_of_ble_eq_true rfl, Nat.le_of_ble_eq_true rfl⟩ (by rw [← hm0]; exact hM.1.recv hC cM_0 rfl) rfl hl (Nat.le_of_ble_eq_true rfl) ⟨show cells + 1 + 0 ≤ 609960 by omega, show slots + 4 + 0 ≤ 7266223 by omega⟩ dL_law_1198 ?_
  refine lv_iload hx hb dL_law_1201 (lv_at hl 1 rfl) ?_
  refine lv_icmp_eq (tgt := 1208) hx hb dL_law_1203 (by decide) (fun _ => ?_) (fun c9 => absurd rfl c9)
  refine lv_iload hx hb dL_law_1208 (lv_at hl 1 rfl) ?_
  have hT : LT E s.heap x mm out _ _ _ _ H locs := ⟨ly, L, ad, ly', L', ad', hX, hM, hx0, hm0, hdj, hoL, hoM, hO, hob, hS⟩
  refine lv_if_ne (tgt := 1225) hx hb dL_law_1210 (by decide) (fun c9 => absurd (by decide) c9) (fun _ => ?_)
  refine lv_aload_n hx hb dL_law_1213 rfl (lv_at hl 6 rfl) ?_
  refine lv_iconstN hx hb 0 dL_law_1214 (by decide) ?_
  refine lw_lald hx hb hC hO dL_law_1215 ?_
  refine lv_iload hx hb dL_law_1216 (lv_at hl 0 rfl) ?_
  refine lv_i2l (v := (ohS c h (nI w)).toInt64) hx hb dL_law_1218 rfl ?_
  refine W.lcmp hx hb dL_law_1219 ?_
  rw [lg_self]
  refine lv_if_eq (tgt := 1225) hx hb dL_law_1220 (by decide) (fun _ => ?_) (fun c9 => absurd rfl c9)
  refine lv_goto (tgt := 1820) hx hb dL_law_1225 (by decide) ?_
  refine W.widen (k := cells + 1100) (n := slots + 14000) (by omega) (by omega) ?_
  exact kk _ _ _ _ _ _ hT (lv_sub hl [2, 3, 4, 5, 6] rfl)
set_option maxHeartbeats 4000000 in
set_option maxRecDepth 100000 in
theorem lc_ofHand_b1 (C0 : LC p l s m co E bb Ln xs) {c : Cy} {th : Int32} {v0 : Int64} {H : Heap} {locs : List Loc} {x mm out : Nat} (hT : LT E s.heap x mm out c c th v0 H locs) {ii : Nat} (hii : ii + 7 ≤ Ln) {cells slots : Nat} (hcs : cells + 1100 ≤ 609960 ∧ slots + 14000 ≤ 7266223) {ls : Array Slot} (hl : lv_has ls 9 [(4, .int (nI ii)), (0, .ref bb), (1, .ref x), (2, .ref mm), (3, .ref out)]) (kk : KK p l e s m below meth co bb E Q x mm out ii cells slots) (v w : Int32) (hq1 : xs (ii + 1) = v) (hq2 : xs (ii + 2) = w) (hv : isInS v (nI 0) (nI (c.R 10 1) - nI 1) = false) : W p l e room_1 s m #[Value.ref bb] below meth co H locs cells slots Q (F0 m 1160 ls []) := by
  obtain ⟨hx, hb, hml, hown, hC, hNc, hXs, hbl, hE0, hst, hLn⟩ := C0
  have hAb : ∀ q, bA E q → bA E q := fun _ h => h
  have hbb : ¬ bA E bb := by show ¬ E.2 0 ≤ bb; rw [hE0]; exact Nat.not_le.mpr hbl
  obtain ⟨ly, L, ad, ly', L', ad', hX, hM, hx0, hm0, hdj, hoL, hoM, hO, hob, hS⟩ := hT
  have hLb := hX.2.2.1
  have hLbM := hM.2.2.1
  have hz0 : ∀ q, H.size ≤ q → bA E q := fun q z => by show E.2 0 ≤ q; rw [hE0]; exact Nat.le_trans hS.1 z
  refine lv_aload_n hx hb dL_law_1160 rfl (lv_at hl 2 rfl) ?_
  refine lv_aload_n hx hb dL_law_1161 rfl (lv_at hl 1 rfl) ?_
  refine lv_iload hx hb dL_law_1162 (lv_at hl 0 rfl) ?_
  refine lv_iconstN hx hb 1 dL_law_1164 (by decide) ?_
  refine lv_iaddN hx hb dL_law_1165 ?_
  refine lw_sld hx hb hXs hbl hbb hS (show ii + 1 < Ln by omega) hLn dL_law_1166 ?_
  rw [hq1]
  refine lv_aload_n hx hb dL_law_1167 rfl (lv_at hl 1 rfl) ?_
  refine lv_iload hx hb dL_law_1168 (lv_at hl 0 rfl) ?_
  refine lv_iconstN hx hb 2 dL_law_1170 (by decide) ?_
  refine lv_iaddN hx hb dL_law_1171 ?_
  refine lw_sld hx hb hXs hbl hbb hS (show ii + 2 < Ln by omega) hLn dL_law_1172 ?_
  rw [hq2]
  refine lv_aload_n hx hb dL_law_1173 rfl (lv_at hl 4 rfl) ?_
  have hMt := mL_ofHand_b1 l hst hX hO hoL hob v w hv
  rw [hx0] at hMt
  refine lw_S (As := [.ref x, .int v, .int w, .ref out]) (rest := []) hx hb hml hown hC hNc hS hAb hMt (fun q h => h.elim (hLb q) (fun h => h.elim (fun h => by rw [h]; exact hob) (hz0 q))) kW_L_145 ⟨rfl, rfl⟩ ⟨Nat.le_of_ble_eq_true rfl, Nat.le_of_ble_eq_true rfl⟩ rfl hl (Nat.le_of_ble_eq_true rfl) ⟨show cells + 1 ≤ 609960 by omega, show slots + 6 ≤ 7266223 by omega⟩ dL_law_1174 (fun H locs hB hS1 hz hkk => ?_)
  have hT := lt_x hX hM hx0 hm0 hdj hoL hoM hO hob hB hkk hS1
  obtain ⟨ly, L, ad, ly', L', ad', hX, hM, hx0, hm0, hdj, hoL, hoM, hO, hob, hS⟩ := hT
  have hLb := hX.2.2.1
  have hLbM := hM.2.2.1
  have hz0 : ∀ q, H.size ≤ q → bA E q := fun q z => by show E.2 0 ≤ q; rw [hE0]; exact Nat.le_trans hS.1 z
  refine lv_istore (lv' := [(5, .int (nI 1)), (4, .int (nI ii)), (0, .ref bb), (1, .ref x), (2, .ref mm), (3, .ref out)]) hx hb dL_law_1177 hl (by decide) rfl (fun ls hl => ?_)
  refine lv_aload_n hx hb dL_law_1179 rfl (lv_at hl 4 rfl) ?_
  refine lv_aload_n hx hb dL_law_1180 rfl (lv_at hl 2 rfl) ?_
  refine lv_iload hx hb dL_law_1181 (lv_at hl 1 rfl) ?_
  refine lv_iconstN hx hb 1 dL_law_1183 (by decide) ?_
  refine lv_iaddN hx hb dL_law_1184 ?_
  refine lw_sld hx hb hXs hbl hbb hS (show ii + 1 < Ln by omega) hLn dL_law_1185 ?_
  rw [hq1]
  refine lv_aload_n hx hb dL_law_1186 rfl (lv_at hl 2 rfl) ?_
  refine lv_iload hx hb dL_law_1187 (lv_at hl 1 rfl) ?_
  refine lv_iconstN hx hb 2 dL_law_1189 (by decide) ?_
  refine lv_iaddN hx hb dL_law_1190 ?_
  refine lw_sld hx hb hXs hbl hbb hS (show ii + 2 < Ln by omega) hLn dL_law_1191 ?_
  rw [hq2]
  have hMt := mX7_ofHand_b1 l hM v w hv
  rw [hm0] at hMt
  refine mu_V (As := [.int v, .int w]) (h0 := mm) (rest := []) (v := nI 0) hx hb hml hown hC hS hAb hMt (fun q h => h.elim (hLbM q) (hz0 q)) kV_L_147 ⟨rfl, rfl⟩ ⟨Nat.le_of_ble_eq_true rfl, Nat.le_of_ble_eq_true rfl⟩ (by rw [← hm0]; exact hM.1.recv hC cM_0 rfl) rfl hl (Nat.le_of_ble_eq_true rfl) ⟨show cells + 1 + 0 ≤ 609960 by omega, show slots + 6 + 0 ≤ 7266223 by omega⟩ dL_law_1192 (fun H locs hB hS1 hz hkk => ?_)
  have hT := lt_m hX hM hx0 hm0 hdj hoL hoM hO hob ⟨L', ly', ad', hB, hm0, fun q h => Or.inl h⟩ hkk hS1
  obtain ⟨ly, L, ad, ly', L', ad', hX, hM, hx0, hm0, hdj, hoL, hoM, hO, hob, hS⟩ := hT
  have hLb := hX.2.2.1
  have hLbM := hM.2.2.1
  have hz0 : ∀ q, H.size ≤ q → bA E q := fun q z => by show E.2 0 ≤ q; rw [hE0]; exact Nat.le_trans hS.1 z
  refine lv_istore (lv' := [(6, .int (nI 0)), (5, .int (nI 1)), (4, .int (nI ii)), (0, .ref bb), (1, .ref x), (2, .ref mm), (3, .ref out)]) hx hb dL_law_1195 hl (by decide) rfl (fun ls hl => ?_)
  refine lv_aload_n hx hb dL_law_1197 rfl (lv_at hl 5 rfl) ?_
  have hMt := mX7_thrown l hM
  rw [hm0] at hMt
  refine ro_V (As := []) (h0 := mm) (rest := []) (v := nI 1) hx hb hml hown hC hS hAb hMt kV_L_98 ⟨rfl, rfl⟩ ⟨Nat.le_of_ble_eq_true rfl, Nat.le_of_ble_eq_true rfl⟩ (by rw [← hm0]; exact hM.1.recv hC cM_0 rfl) rfl hl (Nat.le_of_ble_eq_true rfl) ⟨show cells + 1 + 0 ≤ 609960 by omega, show slots + 6 + 0 ≤ 7266223 by omega⟩ dL_law_1198 ?_
  refine lv_iload hx hb dL_law_1201 (lv_at hl 1 rfl) ?_
  refine lv_icmp_eq (tgt := 1208) hx hb dL_law_1203 (by decide) (fun _ => ?_) (fun c9 => absurd rfl c9)
  refine lv_iload hx hb dL_law_1208 (lv_at hl 1 rfl) ?_
  have hT : LT E s.heap x mm out _ _ _ _ H locs := ⟨ly, L, ad, ly', L', ad', hX, hM, hx0, hm0, hdj, hoL, hoM, hO, hob, hS⟩
  refine lv_if_ne (tgt := 1225) hx hb dL_law_1210 (by decide) (fun _ => ?_) (fun c9 => absurd c9 (by decide))
  refine lv_goto (tgt := 1820) hx hb dL_law_1225 (by decide) ?_
  refine W.widen (k := cells + 1100) (n := slots + 14000) (by omega) (by omega) ?_
  exact kk _ _ _ _ _ _ hT (lv_sub hl [2, 3, 4, 5, 6] rfl)
set_option maxHeartbeats 4000000 in
set_option maxRecDepth 100000 in
theorem lc_ofHand_b2 (C0 : LC p l s m co E bb Ln xs) {c : Cy} {th : Int32} {v0 : Int64} {H : Heap} {locs : List Loc} {x mm out : Nat} (hT : LT E s.heap x mm out c c th v0 H locs) {ii : Nat} (hii : ii + 7 ≤ Ln) {cells slots : Nat} (hcs : cells + 1100 ≤ 609960 ∧ slots + 14000 ≤ 7266223) {ls : Array Slot} (hl : lv_has ls 9 [(4, .int (nI ii)), (0, .ref bb), (1, .ref x), (2, .ref mm), (3, .ref out)]) (kk : KK p l e s m below meth co bb E Q x mm out ii cells slots) (h : Nat) (w : Int32) (hq1 : xs (ii + 1) = nI h) (hq2 : xs (ii + 2) = w) (hh : h < c.R 10 1) (hw : isInS w (nI 0) (nI 10) = false) : W p l e room_1 s m #[Value.ref bb] below meth co H locs cells slots Q (F0 m 1160 ls []) := by
  obtain ⟨hx, hb, hml, hown, hC, hNc, hXs, hbl, hE0, hst, hLn⟩ := C0
  have hAb : ∀ q, bA E q → bA E q := fun _ h => h
  have hbb : ¬ bA E bb := by show ¬ E.2 0 ≤ bb; rw [hE0]; exact Nat.not_le.mpr hbl
  obtain ⟨ly, L, ad, ly', L', ad', hX, hM, hx0, hm0, hdj, hoL, hoM, hO, hob, hS⟩ := hT
  have hLb := hX.2.2.1
  have hLbM := hM.2.2.1
  have hz0 : ∀ q, H.size ≤ q → bA E q := fun q z => by show E.2 0 ≤ q; rw [hE0]; exact Nat.le_trans hS.1 z
  refine lv_aload_n hx hb dL_law_1160 rfl (lv_at hl 2 rfl) ?_
  refine lv_aload_n hx hb dL_law_1161 rfl (lv_at hl 1 rfl) ?_
  refine lv_iload hx hb dL_law_1162 (lv_at hl 0 rfl) ?_
  refine lv_iconstN hx hb 1 dL_law_1164 (by decide) ?_
  refine lv_iaddN hx hb dL_law_1165 ?_
  refine lw_sld hx hb hXs hbl hbb hS (show ii + 1 < Ln by omega) hLn dL_law_1166 ?_
  rw [hq1]
  refine lv_aload_n hx hb dL_law_1167 rfl (lv_at hl 1 rfl) ?_
  refine lv_iload hx hb dL_law_1168 (lv_at hl 0 rfl) ?_
  refine lv_iconstN hx hb 2 dL_law_1170 (by decide) ?_
  refine lv_iaddN hx hb dL_law_1171 ?_
  refine lw_sld hx hb hXs hbl hbb hS (show ii + 2 < Ln by omega) hLn dL_law_1172 ?_
  rw [hq2]
  refine lv_aload_n hx hb dL_law_1173 rfl (lv_at hl 4 rfl) ?_
  have hMt := mL_ofHand_b2 l hst hX hO hoL hob h w hh hw
  rw [hx0] at hMt
  refine lw_S (As := [.ref x, .int (nI h), .int w, .ref out]) (rest := []) hx hb hml hown hC hNc hS hAb hMt (fun q h => h.elim (hLb q) (fun h => h.elim (fun h => by rw [h]; exact hob) (hz0 q))) kW_L_145 ⟨rfl, rfl⟩ ⟨Nat.le_of_ble_eq_true rfl, Nat.le_of_ble_eq_true rfl⟩ rfl hl (Nat.le_of_ble_eq_true rfl) ⟨show cells + 1 ≤ 609960 by omega, show slots + 6 ≤ 7266223 by omega⟩ dL_law_1174 (fun H locs hB hS1 hz hkk => ?_)
  have hT := lt_x hX hM hx0 hm0 hdj hoL hoM hO hob hB hkk hS1
  obtain ⟨ly, L, ad, ly', L', ad', hX, hM, hx0, hm0, hdj, hoL, hoM, hO, hob, hS⟩ := hT
  have hLb := hX.2.2.1
  have hLbM := hM.2.2.1
  have hz0 : ∀ q, H.size ≤ q → bA E q := fun q z => by show E.2 0 ≤ q; rw [hE0]; exact Nat.le_trans hS.1 z
  refine lv_istore (lv' := [(5, .int (nI 2)), (4, .int (nI ii)), (0, .ref bb), (1, .ref x), (2, .ref mm), (3, .ref out)]) hx hb dL_law_1177 hl (by decide) rfl (fun ls hl => ?_)
  refine lv_aload_n hx hb dL_law_1179 rfl (lv_at hl 4 rfl) ?_
  refine lv_aload_n hx hb dL_law_1180 rfl (lv_at hl 2 rfl) ?_
  refine lv_iload hx hb dL_law_1181 (lv_at hl 1 rfl) ?_
  refine lv_iconstN hx hb 1 dL_law_1183 (by decide) ?_
  refine lv_iaddN hx hb dL_law_1184 ?_
  refine lw_sld hx hb hXs hbl hbb hS (show ii + 1 < Ln by omega) hLn dL_law_1185 ?_
  rw [hq1]
  refine lv_aload_n hx hb dL_law_1186 rfl (lv_at hl 2 rfl) ?_
  refine lv_iload hx hb dL_law_1187 (lv_at hl 1 rfl) ?_
  refine lv_iconstN hx hb 2 dL_law_1189 (by decide) ?_
  refine lv_iaddN hx hb dL_law_1190 ?_
  refine lw_sld hx hb hXs hbl hbb hS (show ii + 2 < Ln by omega) hLn dL_law_1191 ?_
  rw [hq2]
  have hMt := mX7_ofHand_b2 l hM h w hh hw
  rw [hm0] at hMt
  refine mu_V (As := [.int (nI h), .int w]) (h0 := mm) (rest := []) (v := nI 0) hx hb hml hown hC hS hAb hMt (fun q h => h.elim (hLbM q) (hz0 q)) kV_L_147 ⟨rfl, rfl⟩ ⟨Nat.le_of_ble_eq_true rfl, Nat.le_of_ble_eq_true rfl⟩ (by rw [← hm0]; exact hM.1.recv hC cM_0 rfl) rfl hl (Nat.le_of_ble_eq_true rfl) ⟨show cells + 1 + 0 ≤ 609960 by omega, show slots + 6 + 0 ≤ 7266223 by omega⟩ dL_law_1192 (fun H locs hB hS1 hz hkk => ?_)
  have hT := lt_m hX hM hx0 hm0 hdj hoL hoM hO hob ⟨L', ly', ad', hB, hm0, fun q h => Or.inl h⟩ hkk hS1
  obtain ⟨ly, L, ad, ly', L', ad', hX, hM, hx0, hm0, hdj, hoL, hoM, hO, hob, hS⟩ := hT
  have hLb := hX.2.2.1
  have hLbM := hM.2.2.1
  have hz0 : ∀ q, H.size ≤ q → bA E q := fun q z => by show E.2 0 ≤ q; rw [hE0]; exact Nat.le_trans hS.1 z
  refine lv_istore (lv' := [(6, .int (nI 0)), (5, .int (nI 2)), (4, .int (nI ii)), (0, .ref bb), (1, .ref x), (2, .ref mm), (3, .ref out)]) hx hb dL_law_1195 hl (by decide) rfl (fun ls hl => ?_)
  refine lv_aload_n hx hb dL_law_1197 rfl (lv_at hl 5 rfl) ?_
  have hMt := mX7_thrown l hM
  rw [hm0] at hMt
  refine ro_V (As := []) (h0 := mm) (rest := []) (v := nI 2) hx hb hml hown hC hS hAb hMt kV_L_98 ⟨rfl, rfl⟩ ⟨Nat.le_of_ble_eq_true rfl, Nat.le_of_ble_eq_true rfl⟩ (by rw [← hm0]; exact hM.1.recv hC cM_0 rfl) rfl hl (Nat.le_of_ble_eq_true rfl) ⟨show cells + 1 + 0 ≤ 609960 by omega, show slots + 6 + 0 ≤ 7266223 by omega⟩ dL_law_1198 ?_
  refine lv_iload hx hb dL_law_1201 (lv_at hl 1 rfl) ?_
  refine lv_icmp_eq (tgt := 1208) hx hb dL_law_1203 (by decide) (fun _ => ?_) (fun c9 => absurd rfl c9)
  refine lv_iload hx hb dL_law_1208 (lv_at hl 1 rfl) ?_
  have hT : LT E s.heap x mm out _ _ _ _ H locs := ⟨ly, L, ad, ly', L', ad', hX, hM, hx0, hm0, hdj, hoL, hoM, hO, hob, hS⟩
  refine lv_if_ne (tgt := 1225) hx hb dL_law_1210 (by decide) (fun _ => ?_) (fun c9 => absurd c9 (by decide))
  refine lv_goto (tgt := 1820) hx hb dL_law_1225 (by decide) ?_
  refine W.widen (k := cells + 1100) (n := slots + 14000) (by omega) (by omega) ?_
  exact kk _ _ _ _ _ _ hT (lv_sub hl [2, 3, 4, 5, 6] rfl)
set_option maxHeartbeats 4000000 in
set_option maxRecDepth 100000 in
theorem lc_ofLayer_g (C0 : LC p l s m co E bb Ln xs) {c : Cy} {th : Int32} {v0 : Int64} {H : Heap} {locs : List Loc} {x mm out : Nat} (hT : LT E s.heap x mm out c c th v0 H locs) {ii : Nat} (hii : ii + 7 ≤ Ln) {cells slots : Nat} (hcs : cells + 1100 ≤ 609960 ∧ slots + 14000 ≤ 7266223) {ls : Array Slot} (hl : lv_has ls 9 [(4, .int (nI ii)), (0, .ref bb), (1, .ref x), (2, .ref mm), (3, .ref out)]) (kk : KK p l e s m below meth co bb E Q x mm out ii cells slots) (j w : Nat) (hq1 : xs (ii + 1) = nI j) (hq2 : xs (ii + 2) = nI w) (hj : j < c.R 10 2) (hw : w ≤ 13) : W p l e room_1 s m #[Value.ref bb] below meth co H locs cells slots Q (F0 m 1228 ls []) := by
  obtain ⟨hx, hb, hml, hown, hC, hNc, hXs, hbl, hE0, hst, hLn⟩ := C0
  have hAb : ∀ q, bA E q → bA E q := fun _ h => h
  have hbb : ¬ bA E bb := by show ¬ E.2 0 ≤ bb; rw [hE0]; exact Nat.not_le.mpr hbl
  obtain ⟨ly, L, ad, ly', L', ad', hX, hM, hx0, hm0, hdj, hoL, hoM, hO, hob, hS⟩ := hT
  have hLb := hX.2.2.1
  have hLbM := hM.2.2.1
  have hz0 : ∀ q, H.size ≤ q → bA E q := fun q z => by show E.2 0 ≤ q; rw [hE0]; exact Nat.le_trans hS.1 z
  refine lv_aload_n hx hb dL_law_1228 rfl (lv_at hl 2 rfl) ?_
  refine lv_aload_n hx hb dL_law_1229 rfl (lv_at hl 1 rfl) ?_
  refine lv_iload hx hb dL_law_1230 (lv_at hl 0 rfl) ?_
  refine lv_iconstN hx hb 1 dL_law_1232 (by decide) ?_
  refine lv_iaddN hx hb dL_law_1233 ?_
  refine lw_sld hx hb hXs hbl hbb hS (show ii + 1 < Ln by omega) hLn dL_law_1234 ?_
  rw [hq1]
  refine lv_aload_n hx hb dL_law_1235 rfl (lv_at hl 1 rfl) ?_
  refine lv_iload hx hb dL_law_1236 (lv_at hl 0 rfl) ?_
  refine lv_iconstN hx hb 2 dL_law_1238 (by decide) ?_
  refine lv_iaddN hx hb dL_law_1239 ?_
  refine lw_sld hx hb hXs hbl hbb hS (show ii + 2 < Ln by omega) hLn dL_law_1240 ?_
  rw [hq2]
  refine lv_aload_n hx hb dL_law_1241 rfl (lv_at hl 4 rfl) ?_
  have hMt := mL_ofLayer_g l hX hO hoL hob j w hj hw
  rw [hx0] at hMt
  refine lw_S (As := [.ref x, .int (nI j), .int (nI w), .ref out]) (rest := []) hx hb hml hown hC hNc hS hAb hMt (fun q h => h.elim (hLb q) (fun h => h.elim (fun h => by rw [h]; exact hob) (hz0 q))) kW_L_148 ⟨rfl, rfl⟩ ⟨Nat.le_of_ble_eq_true rfl, Nat.le_of_ble_eq_true rfl⟩ rfl hl (Nat.le_of_ble_eq_true rfl) ⟨show cells + 0 ≤ 609960 by omega, show slots + 0 ≤ 7266223 by omega⟩ dL_law_1242 (fun H locs hB hS1 hz hkk => ?_)
  have hT := lt_x hX hM hx0 hm0 hdj hoL hoM hO hob hB hkk hS1
  obtain ⟨ly, L, ad, ly', L', ad', hX, hM, hx0, hm0, hdj, hoL, hoM, hO, hob, hS⟩ := hT
  have hLb := hX.2.2.1
  have hLbM := hM.2.2.1
  have hz0 : ∀ q, H.size ≤ q → bA E q := fun q z => by show E.2 0 ≤ q; rw [hE0]; exact Nat.le_trans hS.1 z
  refine lv_istore (lv' := [(5, .int (nI 0)), (4, .int (nI ii)), (0, .ref bb), (1, .ref x), (2, .ref mm), (3, .ref out)]) hx hb dL_law_1245 hl (by decide) rfl (fun ls hl => ?_)
  refine lv_aload_n hx hb dL_law_1247 rfl (lv_at hl 4 rfl) ?_
  refine lv_aload_n hx hb dL_law_1248 rfl (lv_at hl 2 rfl) ?_
  refine lv_iload hx hb dL_law_1249 (lv_at hl 1 rfl) ?_
  refine lv_iconstN hx hb 1 dL_law_1251 (by decide) ?_
  refine lv_iaddN hx hb dL_law_1252 ?_
  refine lw_sld hx hb hXs hbl hbb hS (show ii + 1 < Ln by omega) hLn dL_law_1253 ?_
  rw [hq1]
  refine lv_aload_n hx hb dL_law_1254 rfl (lv_at hl 2 rfl) ?_
  refine lv_iload hx hb dL_law_1255 (lv_at hl 1 rfl) ?_
  refine lv_iconstN hx hb 2 dL_law_1257 (by decide) ?_
  refine lv_iaddN hx hb dL_law_1258 ?_
  refine lw_sld hx hb hXs hbl hbb hS (show ii + 2 < Ln by omega) hLn dL_law_1259 ?_
  rw [hq2]
  have hMt := mX7_ofLayer_g l hM j w hj hw
  rw [hm0] at hMt
  refine mu_V (As := [.int (nI j), .int (nI w)]) (h0 := mm) (rest := []) (v := olS c j (nI w)) hx hb hml hown hC hS hAb hMt (fun q h => h.elim (hLbM q) (hz0 q)) kV_L_150 ⟨rfl, rfl⟩ ⟨Nat.le_of_ble_eq_true rfl, Nat.le_of_ble_eq_true rfl⟩ (by rw [← hm0]; exact hM.1.recv hC cM_0 rfl) rfl hl (Nat.le_of_ble_eq_true rfl) ⟨show cells + 1 ≤ 609960 by omega, show slots + 4 ≤ 7266223 by omega⟩ dL_law_1260 (fun H locs hB hS1 hz hkk => ?_)
  have hT := lt_m hX hM hx0 hm0 hdj hoL hoM hO hob ⟨L', ly', ad', hB, hm0, fun q h => Or.inl h⟩ hkk hS1
  obtain ⟨ly, L, ad, ly', L', ad', hX, hM, hx0, hm0, hdj, hoL, hoM, hO, hob, hS⟩ := hT
  have hLb := hX.2.2.1
  have hLbM := hM.2.2.1
  have hz0 : ∀ q, H.size ≤ q → bA E q := fun q z => by show E.2 0 ≤ q; rw [hE0]; exact Nat.le_trans hS.1 z
  refine lv_istore (lv' := [(6, .int (olS c j (nI w))), (5, .int (nI 0)), (4, .int (nI ii)), (0, .ref bb), (1, .ref x), (2, .ref mm), (3, .ref out)]) hx hb dL_law_1263 hl (by decide) rfl (fun ls hl => ?_)
  refine lv_aload_n hx hb dL_law_1265 rfl (lv_at hl 5 rfl) ?_
  have hMt := mX7_thrown l hM
  rw [hm0] at hMt
  refine ro_V (As := []) (h0 := mm) (rest := []) (v := nI 0) hx hb hml hown hC hS hAb hMt kV_L_98 ⟨rfl, rfl⟩ ⟨Nat.le_of_ble_eq_true rfl, Nat.le_of_ble_eq_true rfl⟩ (by rw [← hm0]; exact hM.1.recv hC cM_0 rfl) rfl hl (Nat.le_of_ble_eq_true rfl) ⟨show cells + 1 + 0 ≤ 609960 by omega, show slots + 4 + 0 ≤ 7266223 by omega⟩ dL_law_1266 ?_
  refine lv_iload hx hb dL_law_1269 (lv_at hl 1 rfl) ?_
  refine lv_icmp_eq (tgt := 1276) hx hb dL_law_1271 (by decide) (fun _ => ?_) (fun c9 => absurd rfl c9)
  refine lv_iload hx hb dL_law_1276 (lv_at hl 1 rfl) ?_
  have hT : LT E s.heap x mm out _ _ _ _ H locs := ⟨ly, L, ad, ly', L', ad', hX, hM, hx0, hm0, hdj, hoL, hoM, hO, hob, hS⟩
  refine lv_if_ne (tgt := 1293) hx hb dL_law_1278 (by decide) (fun c9 => absurd (by decide) c9) (fun _ => ?_)
  refine lv_aload_n hx hb dL_law_1281 rfl (lv_at hl 6 rfl) ?_
  refine lv_iconstN hx hb 0 dL_law_1282 (by decide) ?_
  refine lw_lald hx hb hC hO dL_law_1283 ?_
  refine lv_iload hx hb dL_law_1284 (lv_at hl 0 rfl) ?_
  refine lv_i2l (v := (olS c j (nI w)).toInt64) hx hb dL_law_1286 rfl ?_
  refine W.lcmp hx hb dL_law_1287 ?_
  rw [lg_self]
  refine lv_if_eq (tgt := 1293) hx hb dL_law_1288 (by decide) (fun _ => ?_) (fun c9 => absurd rfl c9)
  refine lv_goto (tgt := 1820) hx hb dL_law_1293 (by decide) ?_
  refine W.widen (k := cells + 1100) (n := slots + 14000) (by omega) (by omega) ?_
  exact kk _ _ _ _ _ _ hT (lv_sub hl [2, 3, 4, 5, 6] rfl)
set_option maxHeartbeats 4000000 in
set_option maxRecDepth 100000 in
theorem lc_ofLayer_b1 (C0 : LC p l s m co E bb Ln xs) {c : Cy} {th : Int32} {v0 : Int64} {H : Heap} {locs : List Loc} {x mm out : Nat} (hT : LT E s.heap x mm out c c th v0 H locs) {ii : Nat} (hii : ii + 7 ≤ Ln) {cells slots : Nat} (hcs : cells + 1100 ≤ 609960 ∧ slots + 14000 ≤ 7266223) {ls : Array Slot} (hl : lv_has ls 9 [(4, .int (nI ii)), (0, .ref bb), (1, .ref x), (2, .ref mm), (3, .ref out)]) (kk : KK p l e s m below meth co bb E Q x mm out ii cells slots) (v w : Int32) (hq1 : xs (ii + 1) = v) (hq2 : xs (ii + 2) = w) (hv : isInS v (nI 0) (nI (c.R 10 2) - nI 1) = false) : W p l e room_1 s m #[Value.ref bb] below meth co H locs cells slots Q (F0 m 1228 ls []) := by
  obtain ⟨hx, hb, hml, hown, hC, hNc, hXs, hbl, hE0, hst, hLn⟩ := C0
  have hAb : ∀ q, bA E q → bA E q := fun _ h => h
  have hbb : ¬ bA E bb := by show ¬ E.2 0 ≤ bb; rw [hE0]; exact Nat.not_le.mpr hbl
  obtain ⟨ly, L, ad, ly', L', ad', hX, hM, hx0, hm0, hdj, hoL, hoM, hO, hob, hS⟩ := hT
  have hLb := hX.2.2.1
  have hLbM := hM.2.2.1
  have hz0 : ∀ q, H.size ≤ q → bA E q := fun q z => by show E.2 0 ≤ q; rw [hE0]; exact Nat.le_trans hS.1 z
  refine lv_aload_n hx hb dL_law_1228 rfl (lv_at hl 2 rfl) ?_
  refine lv_aload_n hx hb dL_law_1229 rfl (lv_at hl 1 rfl) ?_
  refine lv_iload hx hb dL_law_1230 (lv_at hl 0 rfl) ?_
  refine lv_iconstN hx hb 1 dL_law_1232 (by decide) ?_
  refine lv_iaddN hx hb dL_law_1233 ?_
  refine lw_sld hx hb hXs hbl hbb hS (show ii + 1 < Ln by omega) hLn dL_law_1234 ?_
  rw [hq1]
  refine lv_aload_n hx hb dL_law_1235 rfl (lv_at hl 1 rfl) ?_
  refine lv_iload hx hb dL_law_1236 (lv_at hl 0 rfl) ?_
  refine lv_iconstN hx hb 2 dL_law_1238 (by decide) ?_
  refine lv_iaddN hx hb dL_law_1239 ?_
  refine lw_sld hx hb hXs hbl hbb hS (show ii + 2 < Ln by omega) hLn dL_law_1240 ?_
  rw [hq2]
  refine lv_aload_n hx hb dL_law_1241 rfl (lv_at hl 4 rfl) ?_
  have hMt := mL_ofLayer_b1 l hst hX hO hoL hob v w hv
  rw [hx0] at hMt
  refine lw_S (As := [.ref x, .int v, .int w, .ref out]) (rest := []) hx hb hml hown hC hNc hS hAb hMt (fun q h => h.elim (hLb q) (fun h => h.elim (fun h => by rw [h]; exact hob) (hz0 q))) kW_L_148 ⟨rfl, rfl⟩ ⟨Nat.le_of_ble_eq_true rfl, Nat.le_of_ble_eq_true rfl⟩ rfl hl (Nat.le_of_ble_eq_true rfl) ⟨show cells + 1 ≤ 609960 by omega, show slots + 6 ≤ 7266223 by omega⟩ dL_law_1242 (fun H locs hB hS1 hz hkk => ?_)
  have hT := lt_x hX hM hx0 hm0 hdj hoL hoM hO hob hB hkk hS1
  obtain ⟨ly, L, ad, ly', L', ad', hX, hM, hx0, hm0, hdj, hoL, hoM, hO, hob, hS⟩ := hT
  have hLb := hX.2.2.1
  have hLbM := hM.2.2.1
  have hz0 : ∀ q, H.size ≤ q → bA E q := fun q z => by show E.2 0 ≤ q; rw [hE0]; exact Nat.le_trans hS.1 z
  refine lv_istore (lv' := [(5, .int (nI 1)), (4, .int (nI ii)), (0, .ref bb), (1, .ref x), (2, .ref mm), (3, .ref out)]) hx hb dL_law_1245 hl (by decide) rfl (fun ls hl => ?_)
  refine lv_aload_n hx hb dL_law_1247 rfl (lv_at hl 4 rfl) ?_
  refine lv_aload_n hx hb dL_law_1248 rfl (lv_at hl 2 rfl) ?_
  refine lv_iload hx hb dL_law_1249 (lv_at hl 1 rfl) ?_
  refine lv_iconstN hx hb 1 dL_law_1251 (by decide) ?_
  refine lv_iaddN hx hb dL_law_1252 ?_
  refine lw_sld hx hb hXs hbl hbb hS (show ii + 1 < Ln by omega) hLn dL_law_1253 ?_
  rw [hq1]
  refine lv_aload_n hx hb dL_law_1254 rfl (lv_at hl 2 rfl) ?_
  refine lv_iload hx hb dL_law_1255 (lv_at hl 1 rfl) ?_
  refine lv_iconstN hx hb 2 dL_law_1257 (by decide) ?_
  refine lv_iaddN hx hb dL_law_1258 ?_
  refine lw_sld hx hb hXs hbl hbb hS (show ii + 2 < Ln by omega) hLn dL_law_1259 ?_
  rw [hq2]
  have hMt := mX7_ofLayer_b1 l hM v w hv
  rw [hm0] at hMt
  refine mu_V (As := [.int v, .int w]) (h0 := mm) (rest := []) (v := nI 0) hx hb hml hown hC hS hAb hMt (fun q h => h.elim (hLbM q) (hz0 q)) kV_L_150 ⟨rfl, rfl⟩ ⟨Nat.le_of_ble_eq_true rfl, Nat.le_of_ble_eq_true rfl⟩ (by rw [← hm0]; exact hM.1.recv hC cM_0 rfl) rfl hl (Nat.le_of_ble_eq_true rfl) ⟨show cells + 1 + 0 ≤ 609960 by omega, show slots + 6 + 0 ≤ 7266223 by omega⟩ dL_law_1260 (fun H locs hB hS1 hz hkk => ?_)
  have hT := lt_m hX hM hx0 hm0 hdj hoL hoM hO hob ⟨L', ly', ad', hB, hm0, fun q h => Or.inl h⟩ hkk hS1
  obtain ⟨ly, L, ad, ly', L', ad', hX, hM, hx0, hm0, hdj, hoL, hoM, hO, hob, hS⟩ := hT
  have hLb := hX.2.2.1
  have hLbM := hM.2.2.1
  have hz0 : ∀ q, H.size ≤ q → bA E q := fun q z => by show E.2 0 ≤ q; rw [hE0]; exact Nat.le_trans hS.1 z
  refine lv_istore (lv' := [(6, .int (nI 0)), (5, .int (nI 1)), (4, .int (nI ii)), (0, .ref bb), (1, .ref x), (2, .ref mm), (3, .ref out)]) hx hb dL_law_1263 hl (by decide) rfl (fun ls hl => ?_)
  refine lv_aload_n hx hb dL_law_1265 rfl (lv_at hl 5 rfl) ?_
  have hMt := mX7_thrown l hM
  rw [hm0] at hMt
  refine ro_V (As := []) (h0 := mm) (rest := []) (v := nI 1) hx hb hml hown hC hS hAb hMt kV_L_98 ⟨rfl, rfl⟩ ⟨Nat.le_of_ble_eq_true rfl, Nat.le_of_ble_eq_true rfl⟩ (by rw [← hm0]; exact hM.1.recv hC cM_0 rfl) rfl hl (Nat.le_of_ble_eq_true rfl) ⟨show cells + 1 + 0 ≤ 609960 by omega, show slots + 6 + 0 ≤ 7266223 by omega⟩ dL_law_1266 ?_
  refine lv_iload hx hb dL_law_1269 (lv_at hl 1 rfl) ?_
  refine lv_icmp_eq (tgt := 1276) hx hb dL_law_1271 (by decide) (fun _ => ?_) (fun c9 => absurd rfl c9)
  refine lv_iload hx hb dL_law_1276 (lv_at hl 1 rfl) ?_
  have hT : LT E s.heap x mm out _ _ _ _ H locs := ⟨ly, L, ad, ly', L', ad', hX, hM, hx0, hm0, hdj, hoL, hoM, hO, hob, hS⟩
  refine lv_if_ne (tgt := 1293) hx hb dL_law_1278 (by decide) (fun _ => ?_) (fun c9 => absurd c9 (by decide))
  refine lv_goto (tgt := 1820) hx hb dL_law_1293 (by decide) ?_
  refine W.widen (k := cells + 1100) (n := slots + 14000) (by omega) (by omega) ?_
  exact kk _ _ _ _ _ _ hT (lv_sub hl [2, 3, 4, 5, 6] rfl)
set_option maxHeartbeats 4000000 in
set_option maxRecDepth 100000 in
theorem lc_ofLayer_b2 (C0 : LC p l s m co E bb Ln xs) {c : Cy} {th : Int32} {v0 : Int64} {H : Heap} {locs : List Loc} {x mm out : Nat} (hT : LT E s.heap x mm out c c th v0 H locs) {ii : Nat} (hii : ii + 7 ≤ Ln) {cells slots : Nat} (hcs : cells + 1100 ≤ 609960 ∧ slots + 14000 ≤ 7266223) {ls : Array Slot} (hl : lv_has ls 9 [(4, .int (nI ii)), (0, .ref bb), (1, .ref x), (2, .ref mm), (3, .ref out)]) (kk : KK p l e s m below meth co bb E Q x mm out ii cells slots) (j : Nat) (w : Int32) (hq1 : xs (ii + 1) = nI j) (hq2 : xs (ii + 2) = w) (hj : j < c.R 10 2) (hw : isInS w (nI 0) (nI 13) = false) : W p l e room_1 s m #[Value.ref bb] below meth co H locs cells slots Q (F0 m 1228 ls []) := by
  obtain ⟨hx, hb, hml, hown, hC, hNc, hXs, hbl, hE0, hst, hLn⟩ := C0
  have hAb : ∀ q, bA E q → bA E q := fun _ h => h
  have hbb : ¬ bA E bb := by show ¬ E.2 0 ≤ bb; rw [hE0]; exact Nat.not_le.mpr hbl
  obtain ⟨ly, L, ad, ly', L', ad', hX, hM, hx0, hm0, hdj, hoL, hoM, hO, hob, hS⟩ := hT
  have hLb := hX.2.2.1
  have hLbM := hM.2.2.1
  have hz0 : ∀ q, H.size ≤ q → bA E q := fun q z => by show E.2 0 ≤ q; rw [hE0]; exact Nat.le_trans hS.1 z
  refine lv_aload_n hx hb dL_law_1228 rfl (lv_at hl 2 rfl) ?_
  refine lv_aload_n hx hb dL_law_1229 rfl (lv_at hl 1 rfl) ?_
  refine lv_iload hx hb dL_law_1230 (lv_at hl 0 rfl) ?_
  refine lv_iconstN hx hb 1 dL_law_1232 (by decide) ?_
  refine lv_iaddN hx hb dL_law_1233 ?_
  refine lw_sld hx hb hXs hbl hbb hS (show ii + 1 < Ln by omega) hLn dL_law_1234 ?_
  rw [hq1]
  refine lv_aload_n hx hb dL_law_1235 rfl (lv_at hl 1 rfl) ?_
  refine lv_iload hx hb dL_law_1236 (lv_at hl 0 rfl) ?_
  refine lv_iconstN hx hb 2 dL_law_1238 (by decide) ?_
  refine lv_iaddN hx hb dL_law_1239 ?_
  refine lw_sld hx hb hXs hbl hbb hS (show ii + 2 < Ln by omega) hLn dL_law_1240 ?_
  rw [hq2]
  refine lv_aload_n hx hb dL_law_1241 rfl (lv_at hl 4 rfl) ?_
  have hMt := mL_ofLayer_b2 l hst hX hO hoL hob j w hj hw
  rw [hx0] at hMt
  refine lw_S (As := [.ref x, .int (nI j), .int w, .ref out]) (rest := []) hx hb hml hown hC hNc hS hAb hMt (fun q h => h.elim (hLb q) (fun h => h.elim (fun h => by rw [h]; exact hob) (hz0 q))) kW_L_148 ⟨rfl, rfl⟩ ⟨Nat.le_of_ble_eq_true rfl, Nat.le_of_ble_eq_true rfl⟩ rfl hl (Nat.le_of_ble_eq_true rfl) ⟨show cells + 1 ≤ 609960 by omega, show slots + 6 ≤ 7266223 by omega⟩ dL_law_1242 (fun H locs hB hS1 hz hkk => ?_)
  have hT := lt_x hX hM hx0 hm0 hdj hoL hoM hO hob hB hkk hS1
  obtain ⟨ly, L, ad, ly', L', ad', hX, hM, hx0, hm0, hdj, hoL, hoM, hO, hob, hS⟩ := hT
  have hLb := hX.2.2.1
  have hLbM := hM.2.2.1
  have hz0 : ∀ q, H.size ≤ q → bA E q := fun q z => by show E.2 0 ≤ q; rw [hE0]; exact Nat.le_trans hS.1 z
  refine lv_istore (lv' := [(5, .int (nI 2)), (4, .int (nI ii)), (0, .ref bb), (1, .ref x), (2, .ref mm), (3, .ref out)]) hx hb dL_law_1245 hl (by decide) rfl (fun ls hl => ?_)
  refine lv_aload_n hx hb dL_law_1247 rfl (lv_at hl 4 rfl) ?_
  refine lv_aload_n hx hb dL_law_1248 rfl (lv_at hl 2 rfl) ?_
  refine lv_iload hx hb dL_law_1249 (lv_at hl 1 rfl) ?_
  refine lv_iconstN hx hb 1 dL_law_1251 (by decide) ?_
  refine lv_iaddN hx hb dL_law_1252 ?_
  refine lw_sld hx hb hXs hbl hbb hS (show ii + 1 < Ln by omega) hLn dL_law_1253 ?_
  rw [hq1]
  refine lv_aload_n hx hb dL_law_1254 rfl (lv_at hl 2 rfl) ?_
  refine lv_iload hx hb dL_law_1255 (lv_at hl 1 rfl) ?_
  refine lv_iconstN hx hb 2 dL_law_1257 (by decide) ?_
  refine lv_iaddN hx hb dL_law_1258 ?_
  refine lw_sld hx hb hXs hbl hbb hS (show ii + 2 < Ln by omega) hLn dL_law_1259 ?_
  rw [hq2]
  have hMt := mX7_ofLayer_b2 l hM j w hj hw
  rw [hm0] at hMt
  refine mu_V (As := [.int (nI j), .int w]) (h0 := mm) (rest := []) (v := nI 0) hx hb hml hown hC hS hAb hMt (fun q h => h.elim (hLbM q) (hz0 q)) kV_L_150 ⟨rfl, rfl⟩ ⟨Nat.le_of_ble_eq_true rfl, Nat.le_of_ble_eq_true rfl⟩ (by rw [← hm0]; exact hM.1.recv hC cM_0 rfl) rfl hl (Nat.le_of_ble_eq_true rfl) ⟨show cells + 1 + 0 ≤ 609960 by omega, show slots + 6 + 0 ≤ 7266223 by omega⟩ dL_law_1260 (fun H locs hB hS1 hz hkk => ?_)
  have hT := lt_m hX hM hx0 hm0 hdj hoL hoM hO hob ⟨L', ly', ad', hB, hm0, fun q h => Or.inl h⟩ hkk hS1
  obtain ⟨ly, L, ad, ly', L', ad', hX, hM, hx0, hm0, hdj, hoL, hoM, hO, hob, hS⟩ := hT
  have hLb := hX.2.2.1
  have hLbM := hM.2.2.1
  have hz0 : ∀ q, H.size ≤ q → bA E q := fun q z => by show E.2 0 ≤ q; rw [hE0]; exact Nat.le_trans hS.1 z
  refine lv_istore (lv' := [(6, .int (nI 0)), (5, .int (nI 2)), (4, .int (nI ii)), (0, .ref bb), (1, .ref x), (2, .ref mm), (3, .ref out)]) hx hb dL_law_1263 hl (by decide) rfl (fun ls hl => ?_)
  refine lv_aload_n hx hb dL_law_1265 rfl (lv_at hl 5 rfl) ?_
  have hMt := mX7_thrown l hM
  rw [hm0] at hMt
  refine ro_V (As := []) (h0 := mm) (rest := []) (v := nI 2) hx hb hml hown hC hS hAb hMt kV_L_98 ⟨rfl, rfl⟩ ⟨Nat.le_of_ble_eq_true rfl, Nat.le_of_ble_eq_true rfl⟩ (by rw [← hm0]; exact hM.1.recv hC cM_0 rfl) rfl hl (Nat.le_of_ble_eq_true rfl) ⟨show cells + 1 + 0 ≤ 609960 by omega, show slots + 6 + 0 ≤ 7266223 by omega⟩ dL_law_1266 ?_
  refine lv_iload hx hb dL_law_1269 (lv_at hl 1 rfl) ?_
  refine lv_icmp_eq (tgt := 1276) hx hb dL_law_1271 (by decide) (fun _ => ?_) (fun c9 => absurd rfl c9)
  refine lv_iload hx hb dL_law_1276 (lv_at hl 1 rfl) ?_
  have hT : LT E s.heap x mm out _ _ _ _ H locs := ⟨ly, L, ad, ly', L', ad', hX, hM, hx0, hm0, hdj, hoL, hoM, hO, hob, hS⟩
  refine lv_if_ne (tgt := 1293) hx hb dL_law_1278 (by decide) (fun _ => ?_) (fun c9 => absurd c9 (by decide))
  refine lv_goto (tgt := 1820) hx hb dL_law_1293 (by decide) ?_
  refine W.widen (k := cells + 1100) (n := slots + 14000) (by omega) (by omega) ?_
  exact kk _ _ _ _ _ _ hT (lv_sub hl [2, 3, 4, 5, 6] rfl)
end CAS
