/-! a new city -/
section ROT
variable {E : En} {L : List Nat} {ct : Nat → Nat → Option va_E} {ad : Nat → Nat → Nat} {H0 : Heap}
def c0S : Cy := (fun _ _ => 0, fun a _ => if a = 0 then nI 30 else nI 0, fun _ _ => false, fun _ _ => nI 0, fun _ _ => none)
def ly0 : Ly := (fun _ => nI 0, fun _ => 0)
theorem ctu_in {k i k2 i2 : Nat} {a b r : va_E} (h : ¬ (k = k2 ∧ i = i2)) : ∀ x y, ctu (ctu ct k i b) k2 i2 r x y = ctu (ctu (ctu ct k i a) k2 i2 r) k i b x y := by
  intro x y
  unfold ctu
  by_cases h1 : x = k ∧ y = i
  · rw [if_pos h1, if_pos h1, if_neg (fun z => h ⟨h1.1.symm.trans z.1, h1.2.symm.trans z.2⟩)]
  · by_cases h2 : x = k2 ∧ y = i2
    · rw [if_pos h2, if_neg h1, if_pos h2]
    · rw [if_neg h2, if_neg h1, if_neg h1, if_neg h2, if_neg h1]
theorem WF_0 : WF c0S := ⟨⟨Nat.zero_le _, Nat.zero_le _, Nat.zero_le _⟩, ⟨Nat.le_refl _, Nat.le_refl _, Nat.le_refl _⟩, fun i h => absurd h (Nat.not_lt_zero i), fun i h => absurd h (Nat.not_lt_zero i), fun i h => absurd h (Nat.not_lt_zero i), fun i k j h => absurd h (Nat.not_lt_zero i), Nat.zero_le _, fun i k h => absurd h (Nat.not_lt_zero i), fun i h => absurd h (Nat.not_lt_zero i), fun i h => absurd h (Nat.not_lt_zero i)⟩
/-- the lists' arrays do not lie in the city yet -/
def adE (E : En) (ad : Nat → Nat → Nat) : Nat → Nat → Nat := fun k i => if k = 2 then E.2 9 else ad k i
set_option maxHeartbeats 4000000 in
set_option maxRecDepth 100000 in
theorem mX3_init (l : Launch) (hP : PI E.1 L (ctu (fun _ _ => none) 0 0 (.inr (5, [.null, .null, .null, .int 0, .int 0, .int 0]))) ad H0) (hLb : ∀ q, q ∈ L → bA E q) : MuV l yX3_init cX3_init 1 (rmk 4 3 9 100) [.ref (ad 0 0)] E H0 (fun H1 => ∃ L' ad', PX E c0S ly0 L' ad' H1 ∧ ad' 0 0 = ad 0 0 ∧ (∀ q, q ∈ L' → q ∈ L ∨ H0.size ≤ q)) (cA L H0) 3 9 := by
  refine ro_of (by decide) (Nat.le_of_ble_eq_true rfl) ?_
  intro p e s m below meth co ls hx hb hr hml hown hlocks hnm hC hU hl
  have hl : lv_has ls 1 [(0, .ref (ad 0 0))] := hl
  have hS : va_S (cA L H0) s.heap H0 [] := by rw [hU]; exact va_S.rf
  have hA : ∀ q, q ∈ L → cA L H0 q := fun q h => Or.inl h
  have hN : ∀ q, s.heap.size ≤ q → cA L H0 q := fun q h => Or.inr (by rw [← hU]; exact h)
  have hAb : ∀ q, cA L H0 q → bA E q := fun q h => h.elim (hLb q) (fun z => Nat.le_trans hC.2.2.2.1 (by rw [hU]; exact z))
  refine lv_aload_n hx hb dX3_init_0 rfl (lv_at hl 0 rfl) ?_
  refine W.objInit hx hb hown (hC.2.1.hts _ _ wMl_X3_1) (hC.2.1.hts _ _ wObI) (hC.2.1.hts _ _ wObC) rfl (by rw [hml]; exact hl.1) rfl dX3_init_1 (Nat.le_of_ble_eq_true rfl) (Nat.le_of_ble_eq_true rfl) ?_
  refine W.eq (g2 := F0 m 4 ls []) rfl ?_
  refine lv_aload_n hx hb dX3_init_4 rfl (lv_at hl 0 rfl) ?_
  refine pi_newC (ci := 1) (fs := [.int 0, .null, .int 0]) (C := RJx4a65c) (T := TJx4a65c) (N := 3) hx hb hC hown hP hS hA hN wU_Jx4a65c tyJx4a65c tyJx4a65c_ok wCl_X3_7 wIa_Jx4a65c wIn_Jx4a65c rfl (fun j hj => by rcases (show j = 0 ∨ j = 1 ∨ j = 2 by omega) with rfl | rfl | rfl <;> rfl) 1 0 ⟨Nat.le_of_ble_eq_true rfl, Nat.le_of_ble_eq_true rfl⟩ dX3_init_5 (fun q1 H hq1 hAq1 hP hS => ?_)
  have hA : ∀ z, z ∈ (L ++ [q1]) → cA L H0 z := fun z h => (List.mem_append.mp h).elim (hA z) (fun h => by rw [List.mem_singleton.mp h]; exact hAq1)
  have hLb : ∀ z, z ∈ (L ++ [q1]) → bA E z := fun z h => hAb z (hA z h)
  have hP := hP.ext (ctu_sw (k := 0) (i := 0) (by omega))
  have vq1 : (up2 ad 1 0 q1) 1 0 = q1 := up2_same _ _ _ _
  refine lv_dup hx hb dX3_init_8 rfl ?_
  have hM := mJ_alInit l hP hLb 1 0 ((ctu_n (by omega)).trans ctu_self)
  rw [vq1] at hM
  refine mu_I (As := []) (h0 := q1) (rest := [.ref q1, .ref (ad 0 0)]) hx hb hml hown hC hS hAb hM (fun z h => h.elim (hA z) (fun h => hN z (Nat.le_trans hS.1 h))) kI_X3_9 ⟨rfl, rfl⟩ ⟨Nat.le_of_ble_eq_true rfl, Nat.le_of_ble_eq_true rfl⟩ rfl hl (Nat.le_of_ble_eq_true rfl) ⟨Nat.le_of_ble_eq_true rfl, Nat.le_of_ble_eq_true rfl⟩ dX3_init_9 (fun H locs hP hS9 _ _ => ?_)
  have hS := hS9
  have hP := hP.ext (ctu_in (k := 1) (i := 0) (k2 := 0) (i2 := 0) (by omega))
  have u9 : (up2 ad 1 0 q1) 0 0 = ad 0 0 := rfl
  rw [← u9]
  refine pc_putF hx hb hC hown hnm hP hS hA fF_X3_10 (v := .ref q1) rfl rfl (Nat.le_of_ble_eq_true rfl) dX3_init_12 (fun H locs hP hS => ?_)
  refine lv_aload_n hx hb dX3_init_15 rfl (lv_at hl 0 rfl) ?_
  refine pi_newC (ci := 1) (fs := [.int 0, .null, .int 0]) (C := RJx4a65c) (T := TJx4a65c) (N := 3) hx hb hC hown hP hS hA hN wU_Jx4a65c tyJx4a65c tyJx4a65c_ok wCl_X3_7 wIa_Jx4a65c wIn_Jx4a65c rfl (fun j hj => by rcases (show j = 0 ∨ j = 1 ∨ j = 2 by omega) with rfl | rfl | rfl <;> rfl) 1 1 ⟨Nat.le_of_ble_eq_true rfl, Nat.le_of_ble_eq_true rfl⟩ dX3_init_16 (fun q2 H hq2 hAq2 hP hS => ?_)
  have hA : ∀ z, z ∈ ((L ++ [q1]) ++ [q2]) → cA L H0 z := fun z h => (List.mem_append.mp h).elim (hA z) (fun h => by rw [List.mem_singleton.mp h]; exact hAq2)
  have hLb : ∀ z, z ∈ ((L ++ [q1]) ++ [q2]) → bA E z := fun z h => hAb z (hA z h)
  have hP := hP.ext (ctu_sw (k := 0) (i := 0) (by omega))
  have vq2 : (up2 (up2 ad 1 0 q1) 1 1 q2) 1 1 = q2 := up2_same _ _ _ _
  refine lv_dup hx hb dX3_init_19 rfl ?_
  have hM := mJ_alInit l hP hLb 1 1 ((ctu_n (by omega)).trans ctu_self)
  rw [vq2] at hM
  refine mu_I (As := []) (h0 := q2) (rest := [.ref q2, .ref (ad 0 0)]) hx hb hml hown hC hS hAb hM (fun z h => h.elim (hA z) (fun h => hN z (Nat.le_trans hS.1 h))) kI_X3_9 ⟨rfl, rfl⟩ ⟨Nat.le_of_ble_eq_true rfl, Nat.le_of_ble_eq_true rfl⟩ rfl hl (Nat.le_of_ble_eq_true rfl) ⟨Nat.le_of_ble_eq_true rfl, Nat.le_of_ble_eq_true rfl⟩ dX3_init_20 (fun H locs hP hS9 _ _ => ?_)
  have hS := hS9
  have hP := hP.ext (ctu_in (k := 1) (i := 1) (k2 := 0) (i2 := 0) (by omega))
  have u9 : (up2 (up2 ad 1 0 q1) 1 1 q2) 0 0 = ad 0 0 := rfl
  rw [← u9]
  refine pc_putF hx hb hC hown hnm hP hS hA fF_X3_16 (v := .ref q2) rfl rfl (Nat.le_of_ble_eq_true rfl) dX3_init_23 (fun H locs hP hS => ?_)
  refine lv_aload_n hx hb dX3_init_26 rfl (lv_at hl 0 rfl) ?_
  refine pi_newC (ci := 1) (fs := [.int 0, .null, .int 0]) (C := RJx4a65c) (T := TJx4a65c) (N := 3) hx hb hC hown hP hS hA hN wU_Jx4a65c tyJx4a65c tyJx4a65c_ok wCl_X3_7 wIa_Jx4a65c wIn_Jx4a65c rfl (fun j hj => by rcases (show j = 0 ∨ j = 1 ∨ j = 2 by omega) with rfl | rfl | rfl <;> rfl) 1 2 ⟨Nat.le_of_ble_eq_true rfl, Nat.le_of_ble_eq_true rfl⟩ dX3_init_27 (fun q3 H hq3 hAq3 hP hS => ?_)
  have hA : ∀ z, z ∈ (((L ++ [q1]) ++ [q2]) ++ [q3]) → cA L H0 z := fun z h => (List.mem_append.mp h).elim (hA z) (fun h => by rw [List.mem_singleton.mp h]; exact hAq3)
  have hLb : ∀ z, z ∈ (((L ++ [q1]) ++ [q2]) ++ [q3]) → bA E z := fun z h => hAb z (hA z h)
  have hP := hP.ext (ctu_sw (k := 0) (i := 0) (by omega))
  have vq3 : (up2 (up2 (up2 ad 1 0 q1) 1 1 q2) 1 2 q3) 1 2 = q3 := up2_same _ _ _ _
  refine lv_dup hx hb dX3_init_30 rfl ?_
  have hM := mJ_alInit l hP hLb 1 2 ((ctu_n (by omega)).trans ctu_self)
  rw [vq3] at hM
  refine mu_I (As := []) (h0 := q3) (rest := [.ref q3, .ref (ad 0 0)]) hx hb hml hown hC hS hAb hM (fun z h => h.elim (hA z) (fun h => hN z (Nat.le_trans hS.1 h))) kI_X3_9 ⟨rfl, rfl⟩ ⟨Nat.le_of_ble_eq_true rfl, Nat.le_of_ble_eq_true rfl⟩ rfl hl (Nat.le_of_ble_eq_true rfl) ⟨Nat.le_of_ble_eq_true rfl, Nat.le_of_ble_eq_true rfl⟩ dX3_init_31 (fun H locs hP hS9 _ _ => ?_)
  have hS := hS9
  have hP := hP.ext (ctu_in (k := 1) (i := 2) (k2 := 0) (i2 := 0) (by omega))
  have u9 : (up2 (up2 (up2 ad 1 0 q1) 1 1 q2) 1 2 q3) 0 0 = ad 0 0 := rfl
  rw [← u9]
  refine pc_putF hx hb hC hown hnm hP hS hA fF_X3_19 (v := .ref q3) rfl rfl (Nat.le_of_ble_eq_true rfl) dX3_init_34 (fun H locs hP hS => ?_)
  refine lv_aload_n hx hb dX3_init_37 rfl (lv_at hl 0 rfl) ?_
  refine lv_iconstN hx hb 0 dX3_init_38 (by decide) ?_
  have u9 : (up2 (up2 (up2 ad 1 0 q1) 1 1 q2) 1 2 q3) 0 0 = ad 0 0 := rfl
  rw [← u9]
  refine pc_put hx hb hC hown hP hS hA fP_X3_22 (v := .int (nI 0)) rfl rfl (Nat.le_of_ble_eq_true rfl) dX3_init_39 (fun H locs hP hS => ?_)
  refine lv_aload_n hx hb dX3_init_42 rfl (lv_at hl 0 rfl) ?_
  refine lv_bipushN hx hb 30 dX3_init_43 (by decide) ?_
  have u9 : (up2 (up2 (up2 ad 1 0 q1) 1 1 q2) 1 2 q3) 0 0 = ad 0 0 := rfl
  rw [← u9]
  refine pc_put hx hb hC hown hP hS hA fP_X3_26 (v := .int (nI 30)) rfl rfl (Nat.le_of_ble_eq_true rfl) dX3_init_45 (fun H locs hP hS => ?_)
  refine lv_aload_n hx hb dX3_init_48 rfl (lv_at hl 0 rfl) ?_
  refine lv_iconstN hx hb 0 dX3_init_49 (by decide) ?_
  have u9 : (up2 (up2 (up2 ad 1 0 q1) 1 1 q2) 1 2 q3) 0 0 = ad 0 0 := rfl
  rw [← u9]
  refine pc_put hx hb hC hown hP hS hA fP_X3_29 (v := .int (nI 0)) rfl rfl (Nat.le_of_ble_eq_true rfl) dX3_init_50 (fun H locs hP hS => ?_)
  refine mu_vret hx hb hr hlocks hS ⟨(((L ++ [q1]) ++ [q2]) ++ [q3]), adE E (up2 (up2 (up2 ad 1 0 q1) 1 1 q2) 1 2 q3), ⟨hP.sub fun k i x hx9 => ?_, fun i hi => ⟨Nat.zero_le _, Nat.zero_le _, fun _ => rfl⟩, hLb, WF_0⟩, rfl, fun z h => hA z h⟩ dX3_init_53
  match k, hx9 with
  | 0, hx9 =>
    by_cases h1 : i = 0
    · subst h1
      exact ⟨hx9, rfl⟩
    · exact absurd ((if_neg h1).symm.trans hx9) (fun z => by cases z)
  | 1, hx9 =>
    by_cases h1 : i < 3
    · match i, h1, hx9 with
      | 0, _, hx9 => exact ⟨hx9, rfl⟩
      | 1, _, hx9 => exact ⟨hx9, rfl⟩
      | 2, _, hx9 => exact ⟨hx9, rfl⟩
    · exact absurd ((if_neg h1).symm.trans hx9) (fun z => by cases z)
  | 2, hx9 => exact absurd ((if_neg (fun z => absurd z.2 (Nat.lt_irrefl 0))).symm.trans hx9) (fun z => by cases z)
  | 3, hx9 =>
    have h8 : cX E c0S ly0 (adE E (up2 (up2 (up2 ad 1 0 q1) 1 1 q2) 1 2 q3)) 3 i = none := by simp [cX, cM, c0S, Cy.R]
    exact absurd (hx9.symm.trans h8) (fun z => by cases z)
  | 4, hx9 =>
    have h8 : cX E c0S ly0 (adE E (up2 (up2 (up2 ad 1 0 q1) 1 1 q2) 1 2 q3)) 4 i = none := by simp [cX, cM, c0S, Cy.R]
    exact absurd (hx9.symm.trans h8) (fun z => by cases z)
  | 5, hx9 =>
    have h8 : cX E c0S ly0 (adE E (up2 (up2 (up2 ad 1 0 q1) 1 1 q2) 1 2 q3)) 5 i = none := by simp [cX, cM, c0S, Cy.R]
    exact absurd (hx9.symm.trans h8) (fun z => by cases z)
  | 6, hx9 =>
    have h8 : cX E c0S ly0 (adE E (up2 (up2 (up2 ad 1 0 q1) 1 1 q2) 1 2 q3)) 6 i = none := by simp [cX, cM, c0S, Cy.R]
    exact absurd (hx9.symm.trans h8) (fun z => by cases z)
  | 7, hx9 =>
    have h8 : cX E c0S ly0 (adE E (up2 (up2 (up2 ad 1 0 q1) 1 1 q2) 1 2 q3)) 7 i = none := by simp [cX, cM, c0S, Cy.R]
    exact absurd (hx9.symm.trans h8) (fun z => by cases z)
  | k + 8, hx9 => cases hx9
end ROT
