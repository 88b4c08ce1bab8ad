section ITM
variable {E : En} {L : List Nat} {ct : Nat → Nat → Option va_E} {ad : Nat → Nat → Nat} {H : Heap} {c : Cy} {ly : Ly}
set_option maxHeartbeats 4000000 in
set_option maxRecDepth 100000 in
theorem mJ_itInit (l : Launch) (hP : PI E.1 L ct ad H) (i : Nat) (he : ct 1 i = some (.inr (1, oLs c ly ad i))) (q : Nat) (hq : q ∉ L) (hqb : bA E q) (hI : va_P E.1 vwCl [(q, .inr (0, [.int 0, .int 0, .int 0, .null]))] H) : MuV l yJx35411_init_45d68 cJx35411_init_45d68 2 (rmk 1 0 0 12) [.ref q, .ref (ad 1 i)] E H (PI E.1 [q] (itc 0 (-1) (ly.1 i) (ad 1 i)) (fun _ _ => q)) (fun z => z = q) 0 0 := by
  refine ro_of (by decide) (Nat.le_of_ble_eq_true rfl) ?_
  intro p e s m below meth co ls hx hb hr hml hown hlocks hnm hC hU hl
  have hl : lv_has ls 2 [(0, .ref q), (1, .ref (ad 1 i))] := hl
  have hS : va_S (fun z => z = q) s.heap H [] := by rw [hU]; exact va_S.rf
  have hA : ∀ z, z ∈ [q] → z = q := fun z h => List.mem_singleton.mp h
  have hd : ∀ z ∈ L, ¬ z = q := fun z h e => hq (by rw [← e]; exact h)
  have hP0 := hP
  rw [← hU] at hP0
  have hI := PI.it hI
  refine lv_aload_n hx hb dJx35411_init_45d68_0 rfl (lv_at hl 0 rfl) ?_
  refine lv_aload_n hx hb dJx35411_init_45d68_1 rfl (lv_at hl 1 rfl) ?_
  refine pi_putF hx hb hC hown hnm hI hS hA fF_Jx35411_1 0 0 rfl (v := .ref (ad 1 i)) rfl rfl (Nat.le_of_ble_eq_true rfl) dJx35411_init_45d68_2 (fun H locs hI hS => ?_)
  refine lv_aload_n hx hb dJx35411_init_45d68_5 rfl (lv_at hl 0 rfl) ?_
  refine W.objInit hx hb hown (hC.2.1.hts _ _ wMl_Jx35411_7) (hC.2.1.hts _ _ wObI) (hC.2.1.hts _ _ wObC) rfl (by rw [hml]; exact hl.1) rfl dJx35411_init_45d68_6 (Nat.le_of_ble_eq_true rfl) (Nat.le_of_ble_eq_true rfl) ?_
  refine W.eq (g2 := F0 m 9 ls []) rfl ?_
  refine lv_aload_n hx hb dJx35411_init_45d68_9 rfl (lv_at hl 0 rfl) ?_
  refine lv_iconst (v := (-1)) hx hb dJx35411_init_45d68_10 (by decide) ?_
  refine pi_put hx hb hC hown hI hS hA fP_Jx35411_13 0 0 rfl (v := .int (-1)) rfl rfl (Nat.le_of_ble_eq_true rfl) dJx35411_init_45d68_11 (fun H locs hI hS => ?_)
  refine lv_aload_n hx hb dJx35411_init_45d68_14 rfl (lv_at hl 0 rfl) ?_
  refine lv_aload_n hx hb dJx35411_init_45d68_15 rfl (lv_at hl 0 rfl) ?_
  refine pi_get hx hb hC hown hI fL_Jx35411_1 0 0 rfl (v := .ref (ad 1 i)) rfl dJx35411_init_45d68_16 ?_
  refine pi_getM hx hb hC hown (hP0.viaS hS hd) wItMod 1 i he dJx35411_init_45d68_19 ?_
  refine pi_put hx hb hC hown hI hS hA fP_Jx35411_22 0 0 rfl (v := .int (ly.1 i)) rfl rfl (Nat.le_of_ble_eq_true rfl) dJx35411_init_45d68_22 (fun H locs hI hS => ?_)
  exact mu_vret hx hb hr hlocks hS (hI.ext fun k j => by unfold itc ctu; by_cases h : k = 0 ∧ j = 0 <;> simp [h, nI_0]) dJx35411_init_45d68_25
set_option maxHeartbeats 4000000 in
set_option maxRecDepth 100000 in
/-- iterator() -/
theorem mJ_iter (l : Launch) (hP : PI E.1 L ct ad H) (hLb : ∀ q, q ∈ L → bA E q) (i : Nat) (he : ct 1 i = some (.inr (1, oLs c ly ad i))) : MuR l yJx4a65c_iterator_32c93 cJx4a65c_iterator_32c93 1 (.object "java/util/Iterator") (rmk 2 1 4 33) [.ref (ad 1 i)] E H (fun q H1 => H.size ≤ q ∧ PI E.1 [q] (itc 0 (-1) (ly.1 i) (ad 1 i)) (fun _ _ => q) H1) (gA H) 1 4 := by
  refine ro_of (by decide) (Nat.le_of_ble_eq_true rfl) ?_
  intro p e s m below meth co ls hx hb hr hml hown hlocks hnm hC hU hl
  have hl : lv_has ls 1 [(0, .ref (ad 1 i))] := hl
  have hS : va_S (gA H) s.heap H [] := by rw [hU]; exact va_S.rf
  have hAb : ∀ q, gA H q → bA E q := fun q h => Nat.le_trans hC.2.2.2.1 (by rw [hU]; exact h)
  have hA : ∀ q, s.heap.size ≤ q → gA H q := fun q h => by rw [← hU]; exact h
  have hd : ∀ z ∈ L, ¬ gA H z := fun z h => Nat.not_le.mpr (hP.lt h)
  have hP0 := hP
  rw [← hU] at hP0
  have hPn : va_P E.1 vwCl [] H := fun k q h => by simp at h
  have hDn : va_D (gA H) [] := ⟨fun i j p q h => by simp at h, fun k q h => by simp at h⟩
  refine va_new (ci := 0) (fs := [.int 0, .int 0, .int 0, .null]) (C := RJx35411) (T := TJx35411) (N := 4) hx hb (hC.2.1.hts _) wU_Jx35411 tyJx35411 tyJx35411_ok hown (hC.2.1.hts _ _ wCl_Jx4a65c_267) (hC.2.1.hts _ _ wIa_Jx35411) (hC.2.1.hts _ _ wIn_Jx35411) hC.1 hPn hDn hS hA rfl (fun j hj => by rcases (show j = 0 ∨ j = 1 ∨ j = 2 ∨ j = 3 by omega) with rfl | rfl | rfl | rfl <;> rfl) (Nat.le_of_ble_eq_true rfl) (Nat.le_of_ble_eq_true rfl) dJx4a65c_iterator_32c93_0 (fun q H1 hP1 hD1 hS1 => ?_)
  have hP1 : va_P E.1 vwCl [(q, .inr (0, [.int 0, .int 0, .int 0, .null]))] H1 := hP1
  have hqA : gA H q := hD1.2 0 _ rfl
  have hqL : q ∉ L := fun h => hd q h hqA
  refine lv_dup hx hb dJx4a65c_iterator_32c93_3 rfl ?_
  refine lv_aload_n hx hb dJx4a65c_iterator_32c93_4 rfl (lv_at hl 0 rfl) ?_
  refine mu_I (As := [.ref (ad 1 i)]) (h0 := q) (rest := [.ref q]) hx hb hml hown hC hS1 hAb (mJ_itInit l (hP0.viaS hS1 hd) i he q hqL (hAb q hqA) hP1) (fun z h => by rw [h]; exact hqA) kI_Jx4a65c_269 ⟨rfl, rfl⟩ ⟨Nat.le_of_ble_eq_true rfl, Nat.le_of_ble_eq_true rfl⟩ rfl hl (Nat.le_of_ble_eq_true rfl) ⟨Nat.le_of_ble_eq_true rfl, Nat.le_of_ble_eq_true rfl⟩ dJx4a65c_iterator_32c93_5 (fun H2 locs2 hB hS2 hz hk => ?_)
  exact mu_aret hx hb hr hlocks hS2 ⟨hqA, hB⟩ dJx4a65c_iterator_32c93_8
set_option maxHeartbeats 4000000 in
set_option maxRecDepth 100000 in
theorem mJ_has (l : Launch) (hP : PI E.1 L ct ad H) (i : Nat) (he : ct 1 i = some (.inr (1, oLs c ly ad i))) (q cur : Nat) {last md : Int32} (hI : PI E.1 [q] (itc cur last md (ad 1 i)) (fun _ _ => q) H) (h1 : cur < 2 ^ 31) (h2 : c.R 10 i < 2 ^ 31) : RoI l yJx35411_hasNext_aae02 cJx35411_hasNext_aae02 1 .boolean (rmk 0 0 0 0) [.ref q] E H (bI (!decide (cur = c.R 10 i))) := by
  refine ro_of (by decide) (Nat.le_of_ble_eq_true rfl) ?_
  intro p e s m below meth co ls hx hb hr hml hown hlocks hnm hC hU hl
  have hl : lv_has ls 1 [(0, .ref q)] := hl
  refine lv_aload_n hx hb dJx35411_hasNext_aae02_0 rfl (lv_at hl 0 rfl) ?_
  refine pi_get hx hb hC hown hI fL_Jx35411_25 0 0 itc_0 (v := .int (nI cur)) rfl dJx35411_hasNext_aae02_1 ?_
  refine lv_aload_n hx hb dJx35411_hasNext_aae02_4 rfl (lv_at hl 0 rfl) ?_
  refine pi_get hx hb hC hown hI fL_Jx35411_1 0 0 itc_0 (v := .ref (ad 1 i)) rfl dJx35411_hasNext_aae02_5 ?_
  refine pi_getZ hx hb hC hown hP 1 i he dJx35411_hasNext_aae02_8 ?_
  refine lv_icmpN_eq (tgt := 18) hx hb dJx35411_hasNext_aae02_11 (by decide) h1 h2 (fun c1 => ?_) (fun c1 => ?_)
  · refine lv_iconstN hx hb 0 dJx35411_hasNext_aae02_18 (by decide) ?_
    exact ro_zretB (b1 := false) hx hb hr hlocks hU (by decide) (by simp [c1]) dJx35411_hasNext_aae02_19
  · refine lv_iconstN hx hb 1 dJx35411_hasNext_aae02_14 (by decide) ?_
    refine lv_goto (tgt := 19) hx hb dJx35411_hasNext_aae02_15 (by decide) ?_
    exact ro_zretB (b1 := true) hx hb hr hlocks hU (by decide) (by simp [c1]) dJx35411_hasNext_aae02_19
set_option maxHeartbeats 4000000 in
set_option maxRecDepth 100000 in
theorem mJ_chk (l : Launch) (hP : PI E.1 L ct ad H) (i : Nat) (he : ct 1 i = some (.inr (1, oLs c ly ad i))) (q cur : Nat) {last : Int32} (hI : PI E.1 [q] (itc cur last (ly.1 i) (ad 1 i)) (fun _ _ => q) H) : RoV l yJx35411_checkForComodification_da8c8 cJx35411_checkForComodification_da8c8 1 (rmk 0 0 0 0) [.ref q] E H := by
  refine ro_of (by decide) (Nat.le_of_ble_eq_true rfl) ?_
  intro p e s m below meth co ls hx hb hr hml hown hlocks hnm hC hU hl
  have hl : lv_has ls 1 [(0, .ref q)] := hl
  refine lv_aload_n hx hb dJx35411_checkForComodification_da8c8_0 rfl (lv_at hl 0 rfl) ?_
  refine pi_get hx hb hC hown hI fL_Jx35411_1 0 0 itc_0 (v := .ref (ad 1 i)) rfl dJx35411_checkForComodification_da8c8_1 ?_
  refine pi_getM hx hb hC hown hP wItMod 1 i he dJx35411_checkForComodification_da8c8_4 ?_
  refine lv_aload_n hx hb dJx35411_checkForComodification_da8c8_7 rfl (lv_at hl 0 rfl) ?_
  refine pi_get hx hb hC hown hI fL_Jx35411_22 0 0 itc_0 (v := .int (ly.1 i)) rfl dJx35411_checkForComodification_da8c8_8 ?_
  refine lv_icmp_eq (tgt := 22) hx hb dJx35411_checkForComodification_da8c8_11 (by decide) (fun _ => ?_) (fun c1 => absurd rfl c1)
  exact ro_vret hx hb hr hlocks hU dJx35411_checkForComodification_da8c8_22
set_option maxHeartbeats 4000000 in
set_option maxRecDepth 100000 in
theorem mJ_next (l : Launch) (hP : PI E.1 L ct ad H) (i : Nat) (he : ct 1 i = some (.inr (1, oLs c ly ad i))) (he2 : 0 < ly.2 i → ct 2 i = some (.inl (oLa E c ly ad i))) (hly : c.R 10 i ≤ ly.2 i ∧ ly.2 i ≤ 100 ∧ (ly.2 i = 0 → ad 2 i = E.2 9)) (q cur : Nat) {last : Int32} (hq : q ∉ L) (hqb : bA E q) (hI : PI E.1 [q] (itc cur last (ly.1 i) (ad 1 i)) (fun _ _ => q) H) (hc : cur < c.R 10 i) : MuR l yJx35411_next_0502b cJx35411_next_0502b 3 (.object "java/lang/Object") (rmk 1 0 0 20) [.ref q] E H (fun a H1 => a = ad (3 + 2 * i) cur ∧ PI E.1 [q] (itc (cur + 1) (nI cur) (ly.1 i) (ad 1 i)) (fun _ _ => q) H1) (fun z => z = q) 0 0 := by
  refine ro_of (by decide) (Nat.le_of_ble_eq_true rfl) ?_
  intro p e s m below meth co ls hx hb hr hml hown hlocks hnm hC hU hl
  have hl : lv_has ls 3 [(0, .ref q)] := hl
  have hS : va_S (fun z => z = q) s.heap H [] := by rw [hU]; exact va_S.rf
  have hAb : ∀ z, z = q → bA E z := fun z h => by rw [h]; exact hqb
  have hA : ∀ z, z ∈ [q] → z = q := fun z h => List.mem_singleton.mp h
  have hd : ∀ z ∈ L, ¬ z = q := fun z h e => hq (by rw [← e]; exact h)
  have hP0 := hP
  rw [← hU] at hP0
  refine lv_aload_n hx hb dJx35411_next_0502b_0 rfl (lv_at hl 0 rfl) ?_
  refine ro_VV (As := []) (h0 := q) (rest := []) hx hb hml hown hC hS hAb (mJ_chk l hP i he q cur hI) kV_Jx35411_31 ⟨rfl, rfl⟩ ⟨Nat.le_of_ble_eq_true rfl, Nat.le_of_ble_eq_true rfl⟩ (hI.recv hC itc_0 rfl) rfl hl (Nat.le_of_ble_eq_true rfl) ⟨Nat.zero_le _, Nat.zero_le _⟩ dJx35411_next_0502b_1 ?_
  refine lv_aload_n hx hb dJx35411_next_0502b_4 rfl (lv_at hl 0 rfl) ?_
  refine pi_get hx hb hC hown hI fL_Jx35411_25 0 0 itc_0 (v := .int (nI cur)) rfl dJx35411_next_0502b_5 ?_
  refine lv_istore_n (lv' := [(1, .int (nI cur)), (0, .ref q)]) hx hb dJx35411_next_0502b_8 rfl hl (by decide) rfl (fun ls hl => ?_)
  refine lv_iload_n hx hb dJx35411_next_0502b_9 rfl (lv_at hl 0 rfl) ?_
  refine lv_aload_n hx hb dJx35411_next_0502b_10 rfl (lv_at hl 1 rfl) ?_
  refine pi_get hx hb hC hown hI fL_Jx35411_1 0 0 itc_0 (v := .ref (ad 1 i)) rfl dJx35411_next_0502b_11 ?_
  refine pi_getZ hx hb hC hown hP 1 i he dJx35411_next_0502b_14 ?_
  refine lv_icmpN_lt (tgt := 28) hx hb dJx35411_next_0502b_17 (by decide) (by omega) (by omega) (fun _ => ?_) (fun c1 => absurd hc (by omega))
  refine lv_aload_n hx hb dJx35411_next_0502b_28 rfl (lv_at hl 1 rfl) ?_
  refine pi_get hx hb hC hown hI fL_Jx35411_1 0 0 itc_0 (v := .ref (ad 1 i)) rfl dJx35411_next_0502b_29 ?_
  refine pi_get hx hb hC hown hP fL_Jx35411_37 1 i he (v := .ref (ad 2 i)) rfl dJx35411_next_0502b_32 ?_
  refine lv_astore_n (lv' := [(2, .ref (ad 2 i)), (1, .int (nI cur)), (0, .ref q)]) hx hb dJx35411_next_0502b_35 rfl hl (by decide) rfl (fun ls hl => ?_)
  refine lv_iload_n hx hb dJx35411_next_0502b_36 rfl (lv_at hl 1 rfl) ?_
  refine lv_aload_n hx hb dJx35411_next_0502b_37 rfl (lv_at hl 0 rfl) ?_
  refine pi_alen hx hb hC hP 2 i 2 rfl (he2 (by omega)) dJx35411_next_0502b_38 ?_
  refine lv_icmpN_lt (tgt := 50) hx hb dJx35411_next_0502b_39 (by decide) (by omega) (by omega) (fun _ => ?_) (fun c1 => absurd hc (by omega))
  refine lv_aload_n hx hb dJx35411_next_0502b_50 rfl (lv_at hl 2 rfl) ?_
  refine lv_iload_n hx hb dJx35411_next_0502b_51 rfl (lv_at hl 1 rfl) ?_
  refine lv_iconstN hx hb 1 dJx35411_next_0502b_52 (by decide) ?_
  refine lv_iaddN hx hb dJx35411_next_0502b_53 ?_
  refine pi_put hx hb hC hown hI hS hA fP_Jx35411_25 0 0 itc_0 (v := .int (nI (cur + 1))) rfl rfl (Nat.le_of_ble_eq_true rfl) dJx35411_next_0502b_54 (fun H locs hI hS => ?_)
  refine lv_aload_n hx hb dJx35411_next_0502b_57 rfl (lv_at hl 0 rfl) ?_
  refine lv_aload_n hx hb dJx35411_next_0502b_58 rfl (lv_at hl 2 rfl) ?_
  refine lv_iload_n hx hb dJx35411_next_0502b_59 rfl (lv_at hl 1 rfl) ?_
  refine lv_dup_x1 hx hb dJx35411_next_0502b_60 rfl rfl ?_
  refine pi_put hx hb hC hown hI hS hA fP_Jx35411_13 0 0 rfl (v := .int (nI cur)) rfl rfl (Nat.le_of_ble_eq_true rfl) dJx35411_next_0502b_61 (fun H locs hI hS => ?_)
  refine pi_rald hx hb hC (hP0.viaS hS hd) 2 i 2 rfl (he2 (by omega)) (j := cur) (by omega) (by omega) dJx35411_next_0502b_64 (fun z => ?_) (fun y z => ?_)
  · exfalso
    unfold lsf at z
    rw [if_pos hc] at z
    cases z
  · exact mu_aret hx hb hr hlocks hS ⟨lsf_some hc z, hI.ext fun k j => by unfold itc ctu; by_cases h : k = 0 ∧ j = 0 <;> simp [h]⟩ dJx35411_next_0502b_65
end ITM
/-! the iterator at work: in the reference's bodies -/
section ITR
variable {p : Program} {l : Launch} {e : Env} {R : Room} {s : State} {m : MethodId} {args : Array Value} {below : List Frame} {meth : Method} {co : Code} {H : Heap} {locs : List Loc} {cells slots : Nat} {Q : State → Prop}
variable {cc : ByteArray} {pc nL : Nat} {ls : Array Slot} {rest : List Value} {E : En} {L : List Nat} {ct : Nat → Nat → Option va_E} {ad : Nat → Nat → Nat} {A : Nat → Prop} {c : Cy} {ly : Ly}
theorem it_new (hx : p.tables.exec = Jvm.exec) (hb : co.code = cc) (hml : co.maxLocals = nL) (hown : s.vm.findClass RX7 = some m.cls) (hC : Cs E s) (hS : va_S A s.heap H locs) (hAb : ∀ q, A q → bA E q) (hA : ∀ q, s.heap.size ≤ q → A q) (hP : PI E.1 L ct ad H) (hLb : ∀ q, q ∈ L → bA E q) (i : Nat) (he : ct 1 i = some (.inr (1, oLs c ly ad i))) (hR : 3 ≤ R.frames ∧ 53 ≤ R.locals) {lv : List (Nat × Value)} (hl : lv_has ls nL lv) (hr8 : (rest.map fun v => v.category).sum ≤ 8) (hc0 : cells + 1 ≤ R.cells ∧ slots + 4 ≤ R.slots) (hdg : decode cc pc = .ok (.invokevirtual 180, 3))
    (kk : ∀ (q : Nat) (H1 : Heap) (locs1 : List Loc), H.size ≤ q → PI E.1 [q] (itc 0 (-1) (ly.1 i) (ad 1 i)) (fun _ _ => q) H1 → va_S A s.heap H1 locs1 → H.size ≤ H1.size → (∀ z, z < H.size → H1[z]? = H[z]?) → W p l e R s m args below meth co H1 locs1 (cells + 1) (slots + 4) Q (F0 m (pc + 3) ls (.ref q :: rest))) : W p l e R s m args below meth co H locs cells slots Q (F0 m pc ls (.ref (ad 1 i) :: rest)) :=
  mu_VR (As := []) (h0 := ad 1 i) (rest := rest) hx hb hml hown hC hS hAb (mJ_iter l hP hLb i he) (fun q h => hA q (Nat.le_trans hS.1 h)) kV_X7_180 ⟨rfl, rfl⟩ hR (hP.recv hC he rfl) rfl hl hr8 hc0 hdg (fun q H1 locs1 hB hS1 hz hk => kk q H1 locs1 hB.1 hB.2 hS1 hz (fun z hz2 => hk z hz2 (Nat.not_le.mpr hz2)))
theorem it_has (hx : p.tables.exec = Jvm.exec) (hb : co.code = cc) (hml : co.maxLocals = nL) (hown : s.vm.findClass RX7 = some m.cls) (hC : Cs E s) (hS : va_S A s.heap H locs) (hAb : ∀ q, A q → bA E q) (hP : PI E.1 L ct ad H) (i : Nat) (he : ct 1 i = some (.inr (1, oLs c ly ad i))) (q cur : Nat) {last md : Int32} (hI : PI E.1 [q] (itc cur last md (ad 1 i)) (fun _ _ => q) H) (h1 : cur < 2 ^ 31) (h2 : c.R 10 i < 2 ^ 31) (hR : 1 ≤ R.frames ∧ 20 ≤ R.locals) {lv : List (Nat × Value)} (hl : lv_has ls nL lv) (hr8 : (rest.map fun v => v.category).sum ≤ 8) (hc0 : cells ≤ R.cells ∧ slots ≤ R.slots) {cnt : Nat} (hdg : decode cc pc = .ok (.invokeinterface 184 cnt, 5))
    (kt : cur < c.R 10 i ∨ c.R 10 i < cur → W p l e R s m args below meth co H locs cells slots Q (F0 m (pc + 5) ls (.int (bI true) :: rest))) (kf : cur = c.R 10 i → W p l e R s m args below meth co H locs cells slots Q (F0 m (pc + 5) ls (.int (bI false) :: rest))) : W p l e R s m args below meth co H locs cells slots Q (F0 m pc ls (.ref q :: rest)) := by
  have hts := hC.2.1.hts args
  have hG : GoodIn WG (va_wsF RX7 184 RJx35411 xIt_has yJx35411_hasNext_aae02 [.code yJx35411_hasNext_aae02 cJx35411_hasNext_aae02 1 (some .boolean)]) := fun w hw => by
    have h : w ∈ WG := by
      simp only [va_wsF, List.mem_append, List.mem_cons, List.not_mem_nil, or_false] at hw
      rcases hw with (rfl | rfl | rfl | rfl) | rfl
      · exact wF_has1
      · exact wF_has2
      · exact wF_has3
      · exact wIn_Jx35411
      · exact wF_has4
    exact ⟨h, wg_good h⟩
  have hr := va_runF (e := e) (below := below) (meth := meth) (locs := locs) (As := []) (rest := rest) (g := F0 m pc ls (.ref q :: rest)) (hC.1.1 0 _ rfl).2 ⟨hx, hb, hml, hown, hts⟩ (mJ_has l hP i he q cur hI h1 h2) (va_cwF 0 hts hG rfl rfl rfl hC.2.2.2.2.2.2.2.2.1 (by decide +kernel) hR) ⟨PcR.blind, hI.recv hC itc_0 rfl, fun U hU hW => ⟨rfl, hU, hC.go hW hU hS hAb⟩⟩ rfl rfl hl.1 rfl (lv_room hr8) hdg hc0
  intro T hT X
  obtain ⟨v, st₀, t, T', L2, h0, X', hL, e1, e2, hq, st⟩ := hr T hT X
  have hL0 : L2 = [] := List.eq_nil_iff_forall_not_mem.mpr fun q hq => hL q hq
  subst hL0
  rw [List.append_nil] at X'
  obtain ⟨⟨r, u, h2', h3, h4⟩, -⟩ := hq
  cases h2'
  subst h3
  by_cases z : cur = c.R 10 i
  · obtain ⟨t2, a1, b1⟩ := kf z T' (e1.trans h4) X'
    refine ⟨t2, st t2 ?_, b1⟩
    rw [show (!decide (cur = c.R 10 i)) = false by simp [z]]
    exact a1
  · obtain ⟨t2, a1, b1⟩ := kt (by omega) T' (e1.trans h4) X'
    refine ⟨t2, st t2 ?_, b1⟩
    rw [show (!decide (cur = c.R 10 i)) = true by simp [z]]
    exact a1
theorem it_next (hx : p.tables.exec = Jvm.exec) (hb : co.code = cc) (hml : co.maxLocals = nL) (hown : s.vm.findClass RX7 = some m.cls) (hC : Cs E s) (hS : va_S A s.heap H locs) (hAb : ∀ q, A q → bA E q) (hP : PI E.1 L ct ad H) (i : Nat) (he : ct 1 i = some (.inr (1, oLs c ly ad i))) (he2 : 0 < ly.2 i → ct 2 i = some (.inl (oLa E c ly ad i))) (hly : c.R 10 i ≤ ly.2 i ∧ ly.2 i ≤ 100 ∧ (ly.2 i = 0 → ad 2 i = E.2 9)) (q cur : Nat) {last : Int32} (hq : q ∉ L) (hqA : A q) (hI : PI E.1 [q] (itc cur last (ly.1 i) (ad 1 i)) (fun _ _ => q) H) (hc : cur < c.R 10 i) (hR : 2 ≤ R.frames ∧ 42 ≤ R.locals) {lv : List (Nat × Value)} (hl : lv_has ls nL lv) (hr8 : (rest.map fun v => v.category).sum ≤ 8) (hc0 : cells ≤ R.cells ∧ slots ≤ R.slots) {cnt : Nat} (hdg : decode cc pc = .ok (.invokeinterface 190 cnt, 5))
    (kk : ∀ (H1 : Heap) (locs1 : List Loc), PI E.1 [q] (itc (cur + 1) (nI cur) (ly.1 i) (ad 1 i)) (fun _ _ => q) H1 → va_S A s.heap H1 locs1 → H.size ≤ H1.size → (∀ z, z < H.size → ¬ z = q → H1[z]? = H[z]?) → W p l e R s m args below meth co H1 locs1 cells slots Q (F0 m (pc + 5) ls (.ref (ad (3 + 2 * i) cur) :: rest))) : W p l e R s m args below meth co H locs cells slots Q (F0 m pc ls (.ref q :: rest)) := by
  have hts := hC.2.1.hts args
  have hG : GoodIn WG (va_wsF RX7 190 RJx35411 xIt_next yJx35411_next_0502b [.code yJx35411_next_0502b cJx35411_next_0502b 3 (some (.object "java/lang/Object"))]) := fun w hw => by
    have h : w ∈ WG := by
      simp only [va_wsF, List.mem_append, List.mem_cons, List.not_mem_nil, or_false] at hw
      rcases hw with (rfl | rfl | rfl | rfl) | rfl
      · exact wF_next1
      · exact wF_next2
      · exact wF_next3
      · exact wIn_Jx35411
      · exact wF_next4
    exact ⟨h, wg_good h⟩
  have hr := va_runF (e := e) (below := below) (meth := meth) (locs := locs) (As := []) (rest := rest) (g := F0 m pc ls (.ref q :: rest)) (hC.1.1 0 _ rfl).2 ⟨hx, hb, hml, hown, hts⟩ (mJ_next l hP i he he2 hly q cur hq (hAb q hqA) hI hc) (va_cwF 0 hts hG rfl rfl rfl hC.2.2.2.2.2.2.2.2.2 (by decide +kernel) hR) ⟨PcR.blind, hI.recv hC itc_0 rfl, fun U hU hW => ⟨rfl, hU, hC.go hW hU hS hAb⟩⟩ rfl rfl hl.1 rfl (lv_room hr8) hdg hc0
  intro T hT X
  obtain ⟨v, st₀, t, T', L2, h0, X', hL, e1, e2, ⟨⟨u, a, h2', h3, h4, h5⟩, hF⟩, st⟩ := hr T hT X
  obtain ⟨k1, k2, k3⟩ := vx_keep (A1 := fun z => z = q) (free := fun z => z = q) h0 e1 hS (fun z _ h => by rw [h]; exact hqA) (fun z h => by rw [h]; exact hqA) hL hF
  cases h2'
  subst h4
  rw [← e1] at h5
  obtain ⟨t2, a1, b1⟩ := kk T'.heap (locs ++ L2) h5 k3 k1 k2 T' rfl X'
  exact ⟨t2, st t2 a1, b1⟩
end ITR
