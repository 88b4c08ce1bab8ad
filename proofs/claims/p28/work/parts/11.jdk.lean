/-! the lists: size, isEmpty, get -/
section JDKA
variable {E : En} {L : List Nat} {ct : Nat → Nat → Option va_E} {ad : Nat → Nat → Nat} {H : Heap}
set_option maxHeartbeats 4000000 in
set_option maxRecDepth 100000 in
theorem mJ_size (l : Launch) (hP : PI E.1 L ct ad H) (i : Nat) {md : Int32} {n : Nat} (he : ct 1 i = some (.inr (1, [.int md, .ref (ad 2 i), .int (nI n)]))) : RoI l yJx4a65c_size_8abf5 cJx4a65c_size_8abf5 1 .int (rmk 0 0 0 0) [.ref (ad 1 i)] E H (nI n) := by
  refine ro_of (by decide) (Nat.le_of_ble_eq_true rfl) ?_
  intro p e s m below meth co ls hx hb hr hml hown hlocks hnm hC hU hl
  have hl : lv_has ls 1 [(0, .ref (ad 1 i))] := hl
  refine lv_aload_n hx hb dJx4a65c_size_8abf5_0 rfl (lv_at hl 0 rfl) ?_
  refine pi_get hx hb hC hown hP fL_Jx4a65c_48 1 i he (v := .int (nI n)) rfl dJx4a65c_size_8abf5_1 ?_
  exact ro_iret hx hb hr hlocks hU rfl dJx4a65c_size_8abf5_4
set_option maxHeartbeats 4000000 in
set_option maxRecDepth 100000 in
theorem mJ_isEmpty (l : Launch) (hP : PI E.1 L ct ad H) (i : Nat) {md : Int32} {n : Nat} (he : ct 1 i = some (.inr (1, [.int md, .ref (ad 2 i), .int (nI n)]))) (hn : n < 2 ^ 31) : RoI l yJx4a65c_isEmpty_aae02 cJx4a65c_isEmpty_aae02 1 .boolean (rmk 0 0 0 0) [.ref (ad 1 i)] E H (bI (decide (n = 0))) := by
  refine ro_of (by decide) (Nat.le_of_ble_eq_true rfl) ?_
  intro p e s m below meth co ls hx hb hr hml hown hlocks hnm hC hU hl
  have hl : lv_has ls 1 [(0, .ref (ad 1 i))] := hl
  refine lv_aload_n hx hb dJx4a65c_isEmpty_aae02_0 rfl (lv_at hl 0 rfl) ?_
  refine pi_get hx hb hC hown hP fL_Jx4a65c_48 1 i he (v := .int (nI n)) rfl dJx4a65c_isEmpty_aae02_1 ?_
  refine lv_ifN_ne (tgt := 11) hx hb dJx4a65c_isEmpty_aae02_4 (by decide) hn (fun c4 => ?_) (fun c4 => ?_)
  · refine lv_iconstN hx hb 0 dJx4a65c_isEmpty_aae02_11 (by decide) ?_
    exact ro_zretB (b1 := false) hx hb hr hlocks hU (by decide) (by simp; omega) dJx4a65c_isEmpty_aae02_12
  · refine lv_iconstN hx hb 1 dJx4a65c_isEmpty_aae02_7 (by decide) ?_
    refine lv_goto (tgt := 12) hx hb dJx4a65c_isEmpty_aae02_8 (by decide) ?_
    exact ro_zretB (b1 := true) hx hb hr hlocks hU (by decide) (by simp [c4]) dJx4a65c_isEmpty_aae02_12
set_option maxHeartbeats 4000000 in
set_option maxRecDepth 100000 in
theorem mJ_pre (l : Launch) (j n : Nat) (hj : j < n) (hn : n < 2 ^ 31) : RoI l yJ3_checkIndex_8e157 cJ3_checkIndex_8e157 3 .int (rmk 0 0 0 0) [.int (nI j), .int (nI n), .null] E H (nI j) := by
  refine ro_of (by decide) (Nat.le_of_ble_eq_true rfl) ?_
  intro p e s m below meth co ls hx hb hr hml hown hlocks hnm hC hU hl
  have hl : lv_has ls 3 [(0, .int (nI j)), (1, .int (nI n)), (2, .null)] := hl
  refine lv_iload_n hx hb dJ3_checkIndex_8e157_0 rfl (lv_at hl 0 rfl) ?_
  refine lv_if_lt (tgt := 9) hx hb dJ3_checkIndex_8e157_1 (by decide) (fun c1 => absurd c1 (nI_pos (by omega))) (fun _ => ?_)
  refine lv_iload_n hx hb dJ3_checkIndex_8e157_4 rfl (lv_at hl 0 rfl) ?_
  refine lv_iload_n hx hb dJ3_checkIndex_8e157_5 rfl (lv_at hl 1 rfl) ?_
  refine lv_icmpN_lt (tgt := 16) hx hb dJ3_checkIndex_8e157_6 (by decide) (by omega) (by omega) (fun _ => ?_) (fun c6 => absurd hj (by omega))
  refine lv_iload_n hx hb dJ3_checkIndex_8e157_16 rfl (lv_at hl 0 rfl) ?_
  exact ro_iret hx hb hr hlocks hU rfl dJ3_checkIndex_8e157_17
set_option maxHeartbeats 4000000 in
set_option maxRecDepth 100000 in
theorem mJ_obj (l : Launch) (j n : Nat) (hj : j < n) (hn : n < 2 ^ 31) : RoI l yJ15_checkIndex_7cf53 cJ15_checkIndex_7cf53 2 .int (rmk 1 0 0 22) [.int (nI j), .int (nI n)] E H (nI j) := by
  refine ro_of (by decide) (Nat.le_of_ble_eq_true rfl) ?_
  intro p e s m below meth co ls hx hb hr hml hown hlocks hnm hC hU hl
  have hS : va_S noA s.heap H [] := by rw [hU]; exact va_S.rf
  have hAb : ∀ q, noA q → bA E q := fun _ h => h.elim
  have hl : lv_has ls 2 [(0, .int (nI j)), (1, .int (nI n))] := hl
  refine lv_iload_n hx hb dJ15_checkIndex_7cf53_0 rfl (lv_at hl 0 rfl) ?_
  refine lv_iload_n hx hb dJ15_checkIndex_7cf53_1 rfl (lv_at hl 1 rfl) ?_
  refine lv_null hx hb dJ15_checkIndex_7cf53_2 ?_
  refine ro_S (As := [.int (nI j), .int (nI n), .null]) (rest := []) (v := nI j) hx hb hml hown hC hS hAb (mJ_pre l j n hj hn) kS_J15_105 ⟨rfl, rfl⟩ ⟨Nat.le_of_ble_eq_true rfl, Nat.le_of_ble_eq_true rfl⟩ rfl hl (Nat.le_of_ble_eq_true rfl) ⟨Nat.zero_le _, Nat.zero_le _⟩ dJ15_checkIndex_7cf53_3 ?_
  exact ro_iret hx hb hr hlocks hU rfl dJ15_checkIndex_7cf53_6
set_option maxHeartbeats 4000000 in
set_option maxRecDepth 100000 in
theorem mJ_elem (l : Launch) {c : Cy} {ly : Ly} (hP : PI E.1 L ct ad H) (i : Nat) (he : ct 1 i = some (.inr (1, oLs c ly ad i))) (he2 : 0 < ly.2 i → ct 2 i = some (.inl (oLa E c ly ad i))) (hly : c.R 10 i ≤ ly.2 i ∧ ly.2 i ≤ 100 ∧ (ly.2 i = 0 → ad 2 i = E.2 9)) (j : Nat) (hj : j < c.R 10 i) : RoR l yJx4a65c_elementData_915e3 cJx4a65c_elementData_915e3 2 (.object "java/lang/Object") (rmk 0 0 0 0) [.ref (ad 1 i), .int (nI j)] E H (some (ad (3 + 2 * i) j)) := by
  refine ro_of (by decide) (Nat.le_of_ble_eq_true rfl) ?_
  intro p e s m below meth co ls hx hb hr hml hown hlocks hnm hC hU hl
  have hl : lv_has ls 2 [(0, .ref (ad 1 i)), (1, .int (nI j))] := hl
  refine lv_aload_n hx hb dJx4a65c_elementData_915e3_0 rfl (lv_at hl 0 rfl) ?_
  refine pi_get hx hb hC hown hP fL_Jx4a65c_9 1 i he (v := .ref (ad 2 i)) rfl dJx4a65c_elementData_915e3_1 ?_
  refine lv_iload_n hx hb dJx4a65c_elementData_915e3_4 rfl (lv_at hl 1 rfl) ?_
  refine pi_rald hx hb hC hP 2 i 2 rfl (he2 (by omega)) (j := j) (by omega) (by omega) dJx4a65c_elementData_915e3_5 (fun q => ?_) (fun y q => ?_)
  · exfalso
    unfold lsf at q
    rw [if_pos hj] at q
    cases q
  · exact ro_aret (x := some y) hx hb hr hlocks hU (by rw [lsf_some hj q]) dJx4a65c_elementData_915e3_6
set_option maxHeartbeats 4000000 in
set_option maxRecDepth 100000 in
theorem mJ_get (l : Launch) {c : Cy} {ly : Ly} (hP : PI E.1 L ct ad H) (i : Nat) (he : ct 1 i = some (.inr (1, oLs c ly ad i))) (he2 : 0 < ly.2 i → ct 2 i = some (.inl (oLa E c ly ad i))) (hly : c.R 10 i ≤ ly.2 i ∧ ly.2 i ≤ 100 ∧ (ly.2 i = 0 → ad 2 i = E.2 9)) (j : Nat) (hj : j < c.R 10 i) : RoR l yJx4a65c_get_915e3 cJx4a65c_get_915e3 2 (.object "java/lang/Object") (rmk 2 0 0 43) [.ref (ad 1 i), .int (nI j)] E H (some (ad (3 + 2 * i) j)) := by
  refine ro_of (by decide) (Nat.le_of_ble_eq_true rfl) ?_
  intro p e s m below meth co ls hx hb hr hml hown hlocks hnm hC hU hl
  have hS : va_S noA s.heap H [] := by rw [hU]; exact va_S.rf
  have hAb : ∀ q, noA q → bA E q := fun _ h => h.elim
  have hl : lv_has ls 2 [(0, .ref (ad 1 i)), (1, .int (nI j))] := hl
  refine lv_iload_n hx hb dJx4a65c_get_915e3_0 rfl (lv_at hl 1 rfl) ?_
  refine lv_aload_n hx hb dJx4a65c_get_915e3_1 rfl (lv_at hl 0 rfl) ?_
  refine pi_get hx hb hC hown hP fL_Jx4a65c_48 1 i he (v := .int (nI (c.R 10 i))) rfl dJx4a65c_get_915e3_2 ?_
  refine ro_S (As := [.int (nI j), .int (nI (c.R 10 i))]) (rest := []) (v := nI j) hx hb hml hown hC hS hAb (mJ_obj l j (c.R 10 i) hj (by omega)) kS_Jx4a65c_118 ⟨rfl, rfl⟩ ⟨Nat.le_of_ble_eq_true rfl, Nat.le_of_ble_eq_true rfl⟩ rfl hl (Nat.le_of_ble_eq_true rfl) ⟨Nat.zero_le _, Nat.zero_le _⟩ dJx4a65c_get_915e3_5 ?_
  refine lv_pop hx hb dJx4a65c_get_915e3_8 rfl ?_
  refine lv_aload_n hx hb dJx4a65c_get_915e3_9 rfl (lv_at hl 0 rfl) ?_
  refine lv_iload_n hx hb dJx4a65c_get_915e3_10 rfl (lv_at hl 1 rfl) ?_
  refine ro_VR (As := [.int (nI j)]) (h0 := ad 1 i) (rest := []) (v := some (ad (3 + 2 * i) j)) hx hb hml hown hC hS hAb (mJ_elem l hP i he he2 hly j hj) kV_Jx4a65c_123 ⟨rfl, rfl⟩ ⟨Nat.le_of_ble_eq_true rfl, Nat.le_of_ble_eq_true rfl⟩ (hP.recv hC he rfl) rfl hl (Nat.le_of_ble_eq_true rfl) ⟨Nat.zero_le _, Nat.zero_le _⟩ dJx4a65c_get_915e3_11 ?_
  exact ro_aret (x := some (ad (3 + 2 * i) j)) hx hb hr hlocks hU rfl dJx4a65c_get_915e3_14
end JDKA
