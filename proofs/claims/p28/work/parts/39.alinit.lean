/-! ArrayList's constructor -/
section ALI
variable {E : En} {L : List Nat} {ct : Nat → Nat → Option va_E} {ad : Nat → Nat → Nat} {H0 : Heap}
theorem wLiM : .fieldLink RJxc12de 7 "java/util/AbstractList" "modCount" "I" ∈ WG := wg_t 44 (by decide +kernel) (by decide +kernel)
set_option maxHeartbeats 4000000 in
set_option maxRecDepth 100000 in
theorem mJ_acInit (l : Launch) (x : Nat) : MuV l yJxa1e45_init_da8c8 cJxa1e45_init_da8c8 1 (rmk 1 0 0 12) [.ref x] E H0 (fun H1 => H1 = H0) noA 0 0 := by
  refine ro_of (by decide) (Nat.le_of_ble_eq_true rfl) ?_
  intro p e s m below meth co ls hx hb hr hml hown hlocks hnm hC hU hl
  have hl : lv_has ls 1 [(0, .ref x)] := hl
  have hS : va_S noA s.heap H0 [] := by rw [hU]; exact va_S.rf
  refine lv_aload_n hx hb dJxa1e45_init_da8c8_0 rfl (lv_at hl 0 rfl) ?_
  refine W.objInit hx hb hown (hC.2.1.hts _ _ wMl_Jxa1e45_1) (hC.2.1.hts _ _ wObI) (hC.2.1.hts _ _ wObC) rfl (by rw [hml]; exact hl.1) rfl dJxa1e45_init_da8c8_1 (Nat.le_of_ble_eq_true rfl) (Nat.le_of_ble_eq_true rfl) ?_
  refine W.eq (g2 := F0 m 4 ls []) rfl ?_
  exact mu_vret hx hb hr hlocks hS rfl dJxa1e45_init_da8c8_4
set_option maxHeartbeats 4000000 in
set_option maxRecDepth 100000 in
theorem mJ_aliInit (l : Launch) (hP : PI E.1 L ct ad H0) (hLb : ∀ q, q ∈ L → bA E q) (k i : Nat) {md : Int32} {v2 v3 : Value} (he : ct k i = some (.inr (1, [.int md, v2, v3]))) : MuV l yJxc12de_init_da8c8 cJxc12de_init_da8c8 1 (rmk 2 0 0 40) [.ref (ad k i)] E H0 (PI E.1 L (ctu ct k i (.inr (1, [.int (nI 0), v2, v3]))) ad) (cA L H0) 0 0 := by
  refine ro_of (by decide) (Nat.le_of_ble_eq_true rfl) ?_
  intro p e s m below meth co ls hx hb hr hml hown hlocks hnm hC hU hl
  have hl : lv_has ls 1 [(0, .ref (ad k i))] := hl
  have hS : va_S (cA L H0) s.heap H0 [] := by rw [hU]; exact va_S.rf
  have hA : ∀ q, q ∈ L → cA L H0 q := fun q h => Or.inl h
  have hAb : ∀ q, cA L H0 q → bA E q := fun q h => h.elim (hLb q) (fun z => Nat.le_trans hC.2.2.2.1 (by rw [hU]; exact z))
  refine lv_aload_n hx hb dJxc12de_init_da8c8_0 rfl (lv_at hl 0 rfl) ?_
  refine mu_I (As := []) (h0 := ad k i) (rest := []) hx hb hml hown hC hS hAb (mJ_acInit l (ad k i)) (fun q h => h.elim) kI_Jxc12de_1 ⟨rfl, rfl⟩ ⟨Nat.le_of_ble_eq_true rfl, Nat.le_of_ble_eq_true rfl⟩ rfl hl (Nat.le_of_ble_eq_true rfl) ⟨Nat.le_of_ble_eq_true rfl, Nat.le_of_ble_eq_true rfl⟩ dJxc12de_init_da8c8_1 (fun H1 locs1 hB hS1 _ _ => ?_)
  have hP1 : PI E.1 L ct ad H1 := by rw [hB]; exact hP
  refine lv_aload_n hx hb dJxc12de_init_da8c8_4 rfl (lv_at hl 0 rfl) ?_
  refine lv_iconstN hx hb 0 dJxc12de_init_da8c8_5 (by decide) ?_
  obtain ⟨h1, ⟨ty0, h6⟩, h7, h8, h9⟩ := fP_Jx4a65c_48
  obtain ⟨f, hQ, hD, hm, hi⟩ := hP1
  obtain ⟨g1, g2⟩ := hm k i _ he
  obtain ⟨j, hj⟩ := va_pl_get (X := []) (f := f) g1
  rw [List.nil_append] at hj
  refine va_put (D := E.1) (cl := vwCl) (A := cA L H0) (C := RJx4a65c) (T := TJx4a65c) (N := 3) (ref := "java/util/AbstractList") hx hb (hC.2.1.hts _) wU_Jx4a65c ty0 h6 h7 hown hC.1 hQ (hD.weaken fun _ q _ h => hA q.1 h) hS1 j (fs := [.int md, v2, v3]) (by rw [hj, g2]) rfl 0 (by decide) (hC.2.1.hts _ _ wLiM) (fun x h9 => h9) rfl (tyJx4a65c_ok 0 (by decide)) rfl rfl (Nat.le_of_ble_eq_true rfl) dJxc12de_init_da8c8_6 fun H2 locs2 hP2 _ hS2 => ?_
  exact mu_vret hx hb hr hlocks hS2 (PI.setAt hD hm hi he hj hP2) dJxc12de_init_da8c8_9
set_option maxHeartbeats 4000000 in
set_option maxRecDepth 100000 in
theorem mJ_alInit (l : Launch) (hP : PI E.1 L ct ad H0) (hLb : ∀ q, q ∈ L → bA E q) (k i : Nat) {md : Int32} {v2 v3 : Value} (he : ct k i = some (.inr (1, [.int md, v2, v3]))) : MuV l yJx4a65c_init_da8c8 cJx4a65c_init_da8c8 1 (rmk 3 0 0 70) [.ref (ad k i)] E H0 (PI E.1 L (ctu ct k i (.inr (1, [.int (nI 0), .ref (E.2 9), v3]))) ad) (cA L H0) 0 0 := by
  refine ro_of (by decide) (Nat.le_of_ble_eq_true rfl) ?_
  intro p e s m below meth co ls hx hb hr hml hown hlocks hnm hC hU hl
  have hl : lv_has ls 1 [(0, .ref (ad k i))] := hl
  have hS : va_S (cA L H0) s.heap H0 [] := by rw [hU]; exact va_S.rf
  have hA : ∀ q, q ∈ L → cA L H0 q := fun q h => Or.inl h
  have hAb : ∀ q, cA L H0 q → bA E q := fun q h => h.elim (hLb q) (fun z => Nat.le_trans hC.2.2.2.1 (by rw [hU]; exact z))
  have hG : Ge E s s.heap := hC.2.2.1.2.2.2.2.1
  refine lv_aload_n hx hb dJx4a65c_init_da8c8_0 rfl (lv_at hl 0 rfl) ?_
  refine mu_I (As := []) (h0 := ad k i) (rest := []) hx hb hml hown hC hS hAb (mJ_aliInit l hP hLb k i he) (fun _ h => h) kI_Jx4a65c_1 ⟨rfl, rfl⟩ ⟨Nat.le_of_ble_eq_true rfl, Nat.le_of_ble_eq_true rfl⟩ rfl hl (Nat.le_of_ble_eq_true rfl) ⟨Nat.le_of_ble_eq_true rfl, Nat.le_of_ble_eq_true rfl⟩ dJx4a65c_init_da8c8_1 (fun H1 locs1 hP hS _ _ => ?_)
  refine lv_aload_n hx hb dJx4a65c_init_da8c8_4 rfl (lv_at hl 0 rfl) ?_
  refine va_gets hx hb (hG.1.narrow hAb) hS hown (hC.2.1.hts _ _ wFlE) (fun _ h => h) dJx4a65c_init_da8c8_5 ?_
  refine pi_put hx hb hC hown hP hS hA fP_Jx4a65c_9 k i ctu_self (v := .ref (E.2 9)) rfl rfl (Nat.le_of_ble_eq_true rfl) dJx4a65c_init_da8c8_8 (fun H2 locs2 hP hS => ?_)
  refine mu_vret hx hb hr hlocks hS (hP.ext fun a b => ?_) dJx4a65c_init_da8c8_11
  unfold ctu
  by_cases h : a = k ∧ b = i
  · rw [if_pos h, if_pos h]; rfl
  · rw [if_neg h, if_neg h, if_neg h]
end ALI
