set_option maxHeartbeats 4000000 in
set_option maxRecDepth 100000 in
theorem mX3_isWithin (l : Launch) {E : En} {H : Heap} (v a b : Int32)  : RoI l yX3_isWithin cX3_isWithin 3 .boolean (rmk 0 0 0 0) [.int v, .int a, .int b] E H (bI (isInS v a b)) := by
  refine ro_of (by decide) (Nat.le_of_ble_eq_true rfl) ?_
  intro p e s m below meth co ls hx hb hr hml hown hlocks hnm hC hU hl
  have hS : va_S noA s.heap H [] := by rw [hU]; exact va_S.rf
  have hAb : ∀ q, noA q → bA E q := fun _ h => h.elim
  have hl : lv_has ls 3 [(0, .int v), (1, .int a), (2, .int b)] := hl
  refine lv_iload_n hx hb dX3_isWithin_0 rfl (lv_at hl 0 rfl) ?_
  refine lv_iload_n hx hb dX3_isWithin_1 rfl (lv_at hl 1 rfl) ?_
  refine lv_icmp_lt (tgt := 14) hx hb dX3_isWithin_2 (by decide) (fun c_2 => ?_) (fun c_2 => ?_)
  · skip
    refine lv_iconstN hx hb 0 dX3_isWithin_14 (by decide) ?_
    exact ro_zretB (b1 := false) hx hb hr hlocks hU (by decide) (by first | rfl | (simp [isInS, c_2]; done) | (simp [isInS, c_2]; omega) | (simp_all [isInS, c_2]; done)) dX3_isWithin_15
  · skip
    refine lv_iload_n hx hb dX3_isWithin_5 rfl (lv_at hl 0 rfl) ?_
    refine lv_iload_n hx hb dX3_isWithin_6 rfl (lv_at hl 2 rfl) ?_
    refine lv_icmp_gt (tgt := 14) hx hb dX3_isWithin_7 (by decide) (fun c_7 => ?_) (fun c_7 => ?_)
    · skip
      refine lv_iconstN hx hb 0 dX3_isWithin_14 (by decide) ?_
      exact ro_zretB (b1 := false) hx hb hr hlocks hU (by decide) (by first | rfl | (simp [isInS, c_2, c_7]; done) | (simp [isInS, c_2, c_7]; omega) | (simp_all [isInS, c_2, c_7]; done)) dX3_isWithin_15
    · skip
      refine lv_iconstN hx hb 1 dX3_isWithin_10 (by decide) ?_
      refine lv_goto (tgt := 15) hx hb dX3_isWithin_11 (by decide) ?_
      exact ro_zretB (b1 := true) hx hb hr hlocks hU (by decide) (by first | rfl | (simp [isInS, c_2, c_7]; done) | (simp [isInS, c_2, c_7]; omega) | (simp_all [isInS, c_2, c_7]; done)) dX3_isWithin_15
set_option maxHeartbeats 4000000 in
set_option maxRecDepth 100000 in
theorem mX3_isKind (l : Launch) {E : En} {H : Heap} (k : Int32)  : RoI l yX3_isKind cX3_isKind 1 .boolean (rmk 1 0 0 22) [.int k] E H (bI (isInS k (nI 0) (nI 3))) := by
  refine ro_of (by decide) (Nat.le_of_ble_eq_true rfl) ?_
  intro p e s m below meth co ls hx hb hr hml hown hlocks hnm hC hU hl
  have hS : va_S noA s.heap H [] := by rw [hU]; exact va_S.rf
  have hAb : ∀ q, noA q → bA E q := fun _ h => h.elim
  have hl : lv_has ls 1 [(0, .int k)] := hl
  refine lv_iload_n hx hb dX3_isKind_0 rfl (lv_at hl 0 rfl) ?_
  refine lv_iconstN hx hb 0 dX3_isKind_1 (by decide) ?_
  refine lv_iconstN hx hb 3 dX3_isKind_2 (by decide) ?_
  refine ro_S (As := [.int k, .int (nI 0), .int (nI 3)]) (rest := []) (v := bI (isInS k (nI 0) (nI 3))) hx hb hml hown hC hS hAb (mX3_isWithin l k (nI 0) (nI 3) ) kS_X3_32 ⟨rfl, rfl⟩ ⟨Nat.le_of_ble_eq_true rfl, Nat.le_of_ble_eq_true rfl⟩ rfl hl (Nat.le_of_ble_eq_true rfl) ⟨Nat.zero_le _, Nat.zero_le _⟩ dX3_isKind_3 ?_
  exact ro_zretB (b1 := (isInS k (nI 0) (nI 3))) hx hb hr hlocks hU rfl (by first | rfl | (simp []; done) | (simp []; omega) | (simp_all []; done)) dX3_isKind_6
set_option maxHeartbeats 4000000 in
set_option maxRecDepth 100000 in
theorem mX2_hasCells (l : Launch) {E : En} {c : Cy} {ly : Ly} {L : List Nat} {ad : Nat → Nat → Nat} {H : Heap} (hX : PX E c ly L ad H) (i : Nat) (f w : Int32) (hi : i < c.R 11 0) : RoI l yX2_hasCells cX2_hasCells 3 .boolean (rmk 0 0 0 0) [.ref (ad 3 i), .int f, .int w] E H (bI (hasS c i f w)) := by
  obtain ⟨hP, hly, hLb, wf⟩ := id hX
  refine ro_of (by decide) (Nat.le_of_ble_eq_true rfl) ?_
  intro p e s m below meth co ls hx hb hr hml hown hlocks hnm hC hU hl
  have hS : va_S noA s.heap H [] := by rw [hU]; exact va_S.rf
  have hAb : ∀ q, noA q → bA E q := fun _ h => h.elim
  have hl : lv_has ls 3 [(0, .ref (ad 3 i)), (1, .int f), (2, .int w)] := hl
  refine lv_iload_n hx hb dX2_hasCells_0 rfl (lv_at hl 1 rfl) ?_
  refine lv_if_lt (tgt := 23) hx hb dX2_hasCells_1 (by decide) (fun c_1 => ?_) (fun c_1 => ?_)
  · skip
    refine lv_iconstN hx hb 0 dX2_hasCells_23 (by decide) ?_
    exact ro_zretB (b1 := false) hx hb hr hlocks hU (by decide) (by first | rfl | (simp [hasS, c_1]; done) | (simp [hasS, c_1]; omega) | (simp_all [hasS, c_1]; done)) dX2_hasCells_24
  · skip
    refine lv_iload_n hx hb dX2_hasCells_4 rfl (lv_at hl 2 rfl) ?_
    refine lv_iconstN hx hb 1 dX2_hasCells_5 (by decide) ?_
    refine lv_icmp_lt (tgt := 23) hx hb dX2_hasCells_6 (by decide) (fun c_6 => ?_) (fun c_6 => ?_)
    · skip
      refine lv_iconstN hx hb 0 dX2_hasCells_23 (by decide) ?_
      exact ro_zretB (b1 := false) hx hb hr hlocks hU (by decide) (by first | rfl | (simp [hasS, c_1, c_6]; done) | (simp [hasS, c_1, c_6]; omega) | (simp_all [hasS, c_1, c_6]; done)) dX2_hasCells_24
    · skip
      refine lv_iload_n hx hb dX2_hasCells_9 rfl (lv_at hl 2 rfl) ?_
      refine lv_aload_n hx hb dX2_hasCells_10 rfl (lv_at hl 0 rfl) ?_
      refine pi_get hx hb hC hown hP fL_X2_15 3 i (cX_3 hi) (v := .int (nI (c.R 1 i))) rfl dX2_hasCells_11 ?_
      have g_1 := wf.wd hi
      refine lv_iload_n hx hb dX2_hasCells_14 rfl (lv_at hl 1 rfl) ?_
      refine lv_isub hx hb dX2_hasCells_15 ?_
      refine lv_icmp_gt (tgt := 23) hx hb dX2_hasCells_16 (by decide) (fun c_16 => ?_) (fun c_16 => ?_)
      · skip
        refine lv_iconstN hx hb 0 dX2_hasCells_23 (by decide) ?_
        exact ro_zretB (b1 := false) hx hb hr hlocks hU (by decide) (by first | rfl | (simp [hasS, c_1, c_6, c_16]; done) | (simp [hasS, c_1, c_6, c_16]; omega) | (simp_all [hasS, c_1, c_6, c_16]; done)) dX2_hasCells_24
      · skip
        refine lv_iconstN hx hb 1 dX2_hasCells_19 (by decide) ?_
        refine lv_goto (tgt := 24) hx hb dX2_hasCells_20 (by decide) ?_
        exact ro_zretB (b1 := true) hx hb hr hlocks hU (by decide) (by first | rfl | (simp [hasS, c_1, c_6, c_16]; done) | (simp [hasS, c_1, c_6, c_16]; omega) | (simp_all [hasS, c_1, c_6, c_16]; done)) dX2_hasCells_24
set_option maxHeartbeats 4000000 in
set_option maxRecDepth 100000 in
theorem mX2_permittedCrew (l : Launch) {E : En} {c : Cy} {ly : Ly} {L : List Nat} {ad : Nat → Nat → Nat} {H : Heap} (hX : PX E c ly L ad H) (i : Nat) (t : Int32) (hi : i < c.R 11 0) : RoI l yX2_permittedCrew cX2_permittedCrew 2 .int (rmk 0 0 0 0) [.ref (ad 3 i), .int t] E H (pcS c i t) := by
  obtain ⟨hP, hly, hLb, wf⟩ := id hX
  refine ro_of (by decide) (Nat.le_of_ble_eq_true rfl) ?_
  intro p e s m below meth co ls hx hb hr hml hown hlocks hnm hC hU hl
  have hS : va_S noA s.heap H [] := by rw [hU]; exact va_S.rf
  have hAb : ∀ q, noA q → bA E q := fun _ h => h.elim
  have hl : lv_has ls 2 [(0, .ref (ad 3 i)), (1, .int t)] := hl
  refine lv_iload_n hx hb dX2_permittedCrew_0 rfl (lv_at hl 1 rfl) ?_
  refine lv_aload_n hx hb dX2_permittedCrew_1 rfl (lv_at hl 0 rfl) ?_
  refine pi_get hx hb hC hown hP fL_X2_36 3 i (cX_3 hi) (v := .int (c.I 5 i)) rfl dX2_permittedCrew_2 ?_
  refine lv_icmp_gt (tgt := 15) hx hb dX2_permittedCrew_5 (by decide) (fun c_5 => ?_) (fun c_5 => ?_)
  · skip
    refine lv_iconst (v := -1) hx hb dX2_permittedCrew_15 (by decide) ?_
    exact ro_iret (x := (-1)) hx hb hr hlocks hU (by first | rfl | (simp [pcS, c_5]; done) | (simp [pcS, c_5]; omega) | (simp_all [pcS, c_5]; done)) dX2_permittedCrew_16
  · skip
    refine lv_aload_n hx hb dX2_permittedCrew_8 rfl (lv_at hl 0 rfl) ?_
    refine pi_get hx hb hC hown hP fL_X2_33 3 i (cX_3 hi) (v := .int (c.I 4 i)) rfl dX2_permittedCrew_9 ?_
    refine lv_goto (tgt := 16) hx hb dX2_permittedCrew_12 (by decide) ?_
    exact ro_iret (x := c.I 4 i) hx hb hr hlocks hU (by first | rfl | (simp [pcS, c_5]; done) | (simp [pcS, c_5]; omega) | (simp_all [pcS, c_5]; done)) dX2_permittedCrew_16
set_option maxHeartbeats 4000000 in
set_option maxRecDepth 100000 in
theorem mX2_isWatchedWithin (l : Launch) {E : En} {c : Cy} {ly : Ly} {L : List Nat} {ad : Nat → Nat → Nat} {H : Heap} (hX : PX E c ly L ad H) (i a b : Nat) (hi : i < c.R 11 0) : RoI l yX2_isWatchedWithin cX2_isWatchedWithin 3 .boolean (rmk 0 0 0 0) [.ref (ad 3 i), .int (nI a), .int (nI b)] E H (bI (watS c i a b)) := by
  obtain ⟨hP, hly, hLb, wf⟩ := id hX
  refine ro_of (by decide) (Nat.le_of_ble_eq_true rfl) ?_
  intro p e s m below meth co ls hx hb hr hml hown hlocks hnm hC hU hl
  have hS : va_S noA s.heap H [] := by rw [hU]; exact va_S.rf
  have hAb : ∀ q, noA q → bA E q := fun _ h => h.elim
  have hl : lv_has ls 3 [(0, .ref (ad 3 i)), (1, .int (nI a)), (2, .int (nI b))] := hl
  refine lv_iload_n hx hb dX2_isWatchedWithin_0 rfl (lv_at hl 1 rfl) ?_
  refine lv_aload_n hx hb dX2_isWatchedWithin_1 rfl (lv_at hl 0 rfl) ?_
  refine pi_get hx hb hC hown hP fL_X2_42 3 i (cX_3 hi) (v := .int (c.I 7 i)) rfl dX2_isWatchedWithin_2 ?_
  refine lv_icmp_gt (tgt := 22) hx hb dX2_isWatchedWithin_5 (by decide) (fun c_5 => ?_) (fun c_5 => ?_)
  · skip
    refine lv_iconstN hx hb 0 dX2_isWatchedWithin_22 (by decide) ?_
    exact ro_zretB (b1 := false) hx hb hr hlocks hU (by decide) (by first | rfl | (simp [watS, c_5]; done) | (simp [watS, c_5]; omega) | (simp_all [watS, c_5]; done)) dX2_isWatchedWithin_23
  · skip
    refine lv_iload_n hx hb dX2_isWatchedWithin_8 rfl (lv_at hl 1 rfl) ?_
    refine lv_iload_n hx hb dX2_isWatchedWithin_9 rfl (lv_at hl 2 rfl) ?_
    refine lv_iaddN hx hb dX2_isWatchedWithin_10 ?_
    refine lv_aload_n hx hb dX2_isWatchedWithin_11 rfl (lv_at hl 0 rfl) ?_
    refine pi_get hx hb hC hown hP fL_X2_39 3 i (cX_3 hi) (v := .int (c.I 6 i)) rfl dX2_isWatchedWithin_12 ?_
    refine lv_icmp_le (tgt := 22) hx hb dX2_isWatchedWithin_15 (by decide) (fun c_15 => ?_) (fun c_15 => ?_)
    · skip
      have c_15 := Int32.not_lt.mpr c_15
      refine lv_iconstN hx hb 0 dX2_isWatchedWithin_22 (by decide) ?_
      exact ro_zretB (b1 := false) hx hb hr hlocks hU (by decide) (by first | rfl | (simp [watS, c_5, c_15]; done) | (simp [watS, c_5, c_15]; omega) | (simp_all [watS, c_5, c_15]; done)) dX2_isWatchedWithin_23
    · skip
      have c_15 := Int32.not_le.mp c_15
      refine lv_iconstN hx hb 1 dX2_isWatchedWithin_18 (by decide) ?_
      refine lv_goto (tgt := 23) hx hb dX2_isWatchedWithin_19 (by decide) ?_
      exact ro_zretB (b1 := true) hx hb hr hlocks hU (by decide) (by first | rfl | (simp [watS, c_5, c_15]; done) | (simp [watS, c_5, c_15]; omega) | (simp_all [watS, c_5, c_15]; done)) dX2_isWatchedWithin_23
set_option maxHeartbeats 4000000 in
set_option maxRecDepth 100000 in
theorem mX2_isCleanedIn (l : Launch) {E : En} {c : Cy} {ly : Ly} {L : List Nat} {ad : Nat → Nat → Nat} {H : Heap} (hX : PX E c ly L ad H) (i t : Nat) (hi : i < c.R 11 0) (ht : t < 1000) : RoI l yX2_isCleanedIn cX2_isCleanedIn 2 .boolean (rmk 0 0 0 0) [.ref (ad 3 i), .int (nI t)] E H (bI (clnS c i t)) := by
  obtain ⟨hP, hly, hLb, wf⟩ := id hX
  refine ro_of (by decide) (Nat.le_of_ble_eq_true rfl) ?_
  intro p e s m below meth co ls hx hb hr hml hown hlocks hnm hC hU hl
  have hS : va_S noA s.heap H [] := by rw [hU]; exact va_S.rf
  have hAb : ∀ q, noA q → bA E q := fun _ h => h.elim
  have hl : lv_has ls 2 [(0, .ref (ad 3 i)), (1, .int (nI t))] := hl
  refine lv_aload_n hx hb dX2_isCleanedIn_0 rfl (lv_at hl 0 rfl) ?_
  refine pi_get hx hb hC hown hP fL_X2_24 3 i (cX_3 hi) (v := .int (nI (c.R 2 i))) rfl dX2_isCleanedIn_1 ?_
  have g_1 := wf.cl hi
  refine lv_ifN_le (tgt := 20) hx hb dX2_isCleanedIn_4 (by decide) (by omega) (fun c_4 => ?_) (fun c_4 => ?_)
  · skip
    refine lv_iconstN hx hb 0 dX2_isCleanedIn_20 (by decide) ?_
    exact ro_zretB (b1 := false) hx hb hr hlocks hU (by decide) (by first | rfl | (simp [clnS, c_4]; done) | (simp [clnS, c_4]; omega) | (simp_all [clnS, c_4]; done)) dX2_isCleanedIn_21
  · skip
    refine lv_iload_n hx hb dX2_isCleanedIn_7 rfl (lv_at hl 1 rfl) ?_
    refine lv_aload_n hx hb dX2_isCleanedIn_8 rfl (lv_at hl 0 rfl) ?_
    refine pi_get hx hb hC hown hP fL_X2_24 3 i (cX_3 hi) (v := .int (nI (c.R 2 i))) rfl dX2_isCleanedIn_9 ?_
    refine lv_iremN hx hb dX2_isCleanedIn_12 (by omega) (by omega) (by omega) ?_
    have gm_2 : t % (c.R 2 i) < (c.R 2 i) := Nat.mod_lt _ (by omega)
    refine lv_ifN_ne (tgt := 20) hx hb dX2_isCleanedIn_13 (by decide) (by omega) (fun c_13 => ?_) (fun c_13 => ?_)
    · skip
      refine lv_iconstN hx hb 0 dX2_isCleanedIn_20 (by decide) ?_
      exact ro_zretB (b1 := false) hx hb hr hlocks hU (by decide) (by first | rfl | (simp [clnS, c_4, c_13]; done) | (simp [clnS, c_4, c_13]; omega) | (simp_all [clnS, c_4, c_13]; done)) dX2_isCleanedIn_21
    · skip
      refine lv_iconstN hx hb 1 dX2_isCleanedIn_16 (by decide) ?_
      refine lv_goto (tgt := 21) hx hb dX2_isCleanedIn_17 (by decide) ?_
      exact ro_zretB (b1 := true) hx hb hr hlocks hU (by decide) (by first | rfl | (simp [clnS, c_4, c_13]; done) | (simp [clnS, c_4, c_13]; omega) | (simp_all [clnS, c_4, c_13]; done)) dX2_isCleanedIn_21
set_option maxHeartbeats 4000000 in
set_option maxRecDepth 100000 in
theorem mX2_showsWithin (l : Launch) {E : En} {c : Cy} {ly : Ly} {L : List Nat} {ad : Nat → Nat → Nat} {H : Heap} (hX : PX E c ly L ad H) (i j f u : Nat) (hi : i < c.R 11 0) (hj : j < c.R 11 2) (he : u ≤ c.R 1 i) (hf : f ≤ u) : RoI l yX2_showsWithin cX2_showsWithin 5 .boolean (rmk 0 0 0 0) [.ref (ad 3 i), .ref (ad 7 j), .int (nI f), .int (nI u)] E H (bI (anyS (shwB c i j) f (u - f))) := by
  obtain ⟨hP, hly, hLb, wf⟩ := id hX
  refine ro_of (by decide) (Nat.le_of_ble_eq_true rfl) ?_
  intro p e s m below meth co ls hx hb hr hml hown hlocks hnm hC hU hl
  have hS : va_S noA s.heap H [] := by rw [hU]; exact va_S.rf
  have hAb : ∀ q, noA q → bA E q := fun _ h => h.elim
  have hl : lv_has ls 5 [(0, .ref (ad 3 i)), (1, .ref (ad 7 j)), (2, .int (nI f)), (3, .int (nI u))] := hl
  have gw := wf.wd hi
  refine lv_iload_n hx hb dX2_showsWithin_0 rfl (lv_at hl 2 rfl) ?_
  refine lv_istore (lv' := [(4, .int (nI f)), (0, .ref (ad 3 i)), (1, .ref (ad 7 j)), (2, .int (nI f)), (3, .int (nI u))]) hx hb dX2_showsWithin_1 hl (by decide) rfl (fun ls hl => ?_)
  have lp3 : ∀ fu : Nat, ∀ (k : Nat), k ≤ u → anyS (shwB c i j) f (u - f) = anyS (shwB c i j) k (u - k) → u - k < fu → ∀ ls : Array Slot, lv_has ls 5 [(0, .ref (ad 3 i)), (1, .ref (ad 7 j)), (2, .int (nI f)), (3, .int (nI u)), (4, .int (nI k))] → W p l e (rmk 0 0 0 0) s m ([.ref (ad 3 i), .ref (ad 7 j), .int (nI f), .int (nI u)] : List Value).toArray below meth co H [] 0 0 (MQ below (QiR (bI (anyS (shwB c i j) f (u - f))) H) ([.ref (ad 3 i), .ref (ad 7 j), .int (nI f), .int (nI u)] : List Value).toArray s 0 0 noA) (F0 m 3 ls []) := by
    intro fu
    induction fu with
    | zero => intro k hu hk hfu; exact absurd hfu (Nat.not_lt_zero _)
    | succ fu ih3 =>
      intro k hu hk hfu ls hl
      have gw := wf.wd hi
      refine lv_iload hx hb dX2_showsWithin_3 (lv_at hl 4 rfl) ?_
      refine lv_iload_n hx hb dX2_showsWithin_5 rfl (lv_at hl 3 rfl) ?_
      refine lv_icmpN_ge (tgt := 28) hx hb dX2_showsWithin_6 (by decide) (by omega) (by omega) (fun c_6 => ?_) (fun c_6 => ?_)
      · skip
        refine lv_iconstN hx hb 0 dX2_showsWithin_28 (by decide) ?_
        exact ro_zretB (b1 := false) hx hb hr hlocks hU (by decide) (by rw [hk]; first | exact (anyS_0 c_6).symm | exact (anyS_t c_6 (by simp [shwB, hk, c_6])).symm) dX2_showsWithin_29
      · skip
        refine lv_aload_n hx hb dX2_showsWithin_9 rfl (lv_at hl 0 rfl) ?_
        refine pi_get hx hb hC hown hP fL_X2_29 3 i (cX_3 hi) (v := .ref (ad 4 i)) rfl dX2_showsWithin_10 ?_
        have g_1 := wf.wd hi
        refine lv_iload hx hb dX2_showsWithin_13 (lv_at hl 4 rfl) ?_
        refine pi_rald (n := c.R 1 i) hx hb hC hP 4 i 1 rfl (cX_4 hi) (j := k) (by first | assumption | omega) (by omega) dX2_showsWithin_15 (fun ed_15 => ?_) (fun y15 ed_15 => ?_)
        · skip
          have d_15 : c.sh i k = none := sh_none ed_15
          refine lv_aload_n hx hb dX2_showsWithin_16 rfl (lv_at hl 1 rfl) ?_
          refine lv_acmp_ne (rx := none) (ry := some ((ad 7 j))) (tgt := 22) hx hb dX2_showsWithin_17 (by decide) (fun c_17 => ?_) (fun c_17 => ?_)
          · skip
            refine lv_iincN (v := 1) (lv' := [(4, .int (nI (k + 1))), (0, .ref (ad 3 i)), (1, .ref (ad 7 j)), (2, .int (nI f)), (3, .int (nI u))]) hx hb dX2_showsWithin_22 hl (k := 4) rfl (by decide) (by decide) rfl (fun ls hl => ?_)
            refine lv_goto (tgt := 3) hx hb dX2_showsWithin_25 (by decide) ?_
            exact ih3 (k + 1) (by first | rfl | assumption | omega | (simp [hk, c_6, d_15]; done) | (simp_all [hk, c_6, d_15]; done)) (hk.trans (anyS_f c_6 (by simp [shwB, hk, c_6, d_15]))) (by omega) _ (lv_sub hl [1, 2, 3, 4, 0] rfl)
          · skip
            exact absurd c_17 (by simp)
        · skip
          obtain ⟨j_15, d_15, rfl⟩ := sh_some ed_15
          have d_15 : c.sh i k = some j_15 := d_15
          have hj_15 : j_15 < c.R 11 2 := wf.sj hi (show k < c.R 1 i by first | assumption | omega) d_15
          refine lv_aload_n hx hb dX2_showsWithin_16 rfl (lv_at hl 1 rfl) ?_
          refine pi_acmp_ne (tgt := 22) hx hb hP 7 j_15 7 j (cX_7 hj_15) (cX_7 hj) dX2_showsWithin_17 (by decide) (fun c_17 => ?_) (fun c_17 => ?_)
          · skip
            have c_17 : ¬ j_15 = j := fun z => c_17 ⟨rfl, z⟩
            refine lv_iincN (v := 1) (lv' := [(4, .int (nI (k + 1))), (0, .ref (ad 3 i)), (1, .ref (ad 7 j)), (2, .int (nI f)), (3, .int (nI u))]) hx hb dX2_showsWithin_22 hl (k := 4) rfl (by decide) (by decide) rfl (fun ls hl => ?_)
            refine lv_goto (tgt := 3) hx hb dX2_showsWithin_25 (by decide) ?_
            exact ih3 (k + 1) (by first | rfl | assumption | omega | (simp [hk, c_6, d_15, c_17]; done) | (simp_all [hk, c_6, d_15, c_17]; done)) (hk.trans (anyS_f c_6 (by simp [shwB, hk, c_6, d_15, c_17]))) (by omega) _ (lv_sub hl [1, 2, 3, 4, 0] rfl)
          · skip
            have c_17 := c_17.2
            refine lv_iconstN hx hb 1 dX2_showsWithin_20 (by decide) ?_
            exact ro_zretB (b1 := true) hx hb hr hlocks hU (by decide) (by rw [hk]; first | exact (anyS_0 c_6).symm | exact (anyS_t c_6 (by simp [shwB, hk, c_6, d_15, c_17])).symm) dX2_showsWithin_21
  exact lp3 (u - f + 1) f (by first | rfl | assumption | omega | (simp []; done) | (simp_all []; done)) (rfl) (Nat.lt_succ_self _) _ (lv_sub hl [1, 2, 3, 4, 0] rfl)
set_option maxHeartbeats 4000000 in
set_option maxRecDepth 100000 in
theorem mX2_cellsShowing (l : Launch) {E : En} {c : Cy} {ly : Ly} {L : List Nat} {ad : Nat → Nat → Nat} {H : Heap} (hX : PX E c ly L ad H) (i j : Nat) (hi : i < c.R 11 0) (hj : j < c.R 11 2) : RoI l yX2_cellsShowing cX2_cellsShowing 4 .int (rmk 0 0 0 0) [.ref (ad 3 i), .ref (ad 7 j)] E H (nI (csS c i j)) := by
  obtain ⟨hP, hly, hLb, wf⟩ := id hX
  refine ro_of (by decide) (Nat.le_of_ble_eq_true rfl) ?_
  intro p e s m below meth co ls hx hb hr hml hown hlocks hnm hC hU hl
  have hS : va_S noA s.heap H [] := by rw [hU]; exact va_S.rf
  have hAb : ∀ q, noA q → bA E q := fun _ h => h.elim
  have hl : lv_has ls 4 [(0, .ref (ad 3 i)), (1, .ref (ad 7 j))] := hl
  refine lv_iconstN hx hb 0 dX2_cellsShowing_0 (by decide) ?_
  refine lv_istore_n (lv' := [(2, .int (nI 0)), (0, .ref (ad 3 i)), (1, .ref (ad 7 j))]) hx hb dX2_cellsShowing_1 rfl hl (by decide) rfl (fun ls hl => ?_)
  refine lv_iconstN hx hb 0 dX2_cellsShowing_2 (by decide) ?_
  refine lv_istore_n (lv' := [(3, .int (nI 0)), (2, .int (nI 0)), (0, .ref (ad 3 i)), (1, .ref (ad 7 j))]) hx hb dX2_cellsShowing_3 rfl hl (by decide) rfl (fun ls hl => ?_)
  have lp4 : ∀ fu : Nat, ∀ (k a : Nat), k ≤ c.R 1 i → a = cntN (shwB c i j) k → c.R 1 i - k < fu → ∀ ls : Array Slot, lv_has ls 4 [(0, .ref (ad 3 i)), (1, .ref (ad 7 j)), (2, .int (nI a)), (3, .int (nI k))] → W p l e (rmk 0 0 0 0) s m ([.ref (ad 3 i), .ref (ad 7 j)] : List Value).toArray below meth co H [] 0 0 (MQ below (QiR (nI (csS c i j)) H) ([.ref (ad 3 i), .ref (ad 7 j)] : List Value).toArray s 0 0 noA) (F0 m 4 ls []) := by
    intro fu
    induction fu with
    | zero => intro k a hk ha hfu; exact absurd hfu (Nat.not_lt_zero _)
    | succ fu ih4 =>
      intro k a hk ha hfu ls hl
      refine lv_iload_n hx hb dX2_cellsShowing_4 rfl (lv_at hl 3 rfl) ?_
      refine lv_aload_n hx hb dX2_cellsShowing_5 rfl (lv_at hl 0 rfl) ?_
      refine pi_get hx hb hC hown hP fL_X2_15 3 i (cX_3 hi) (v := .int (nI (c.R 1 i))) rfl dX2_cellsShowing_6 ?_
      have g_1 := wf.wd hi
      refine lv_icmpN_ge (tgt := 31) hx hb dX2_cellsShowing_9 (by decide) (by omega) (by omega) (fun c_9 => ?_) (fun c_9 => ?_)
      · skip
        refine lv_iload_n hx hb dX2_cellsShowing_31 rfl (lv_at hl 2 rfl) ?_
        exact ro_iret (x := nI a) hx hb hr hlocks hU (by rw [ha, show k = c.R 1 i by omega]; rfl) dX2_cellsShowing_32
      · skip
        refine lv_aload_n hx hb dX2_cellsShowing_12 rfl (lv_at hl 0 rfl) ?_
        refine pi_get hx hb hC hown hP fL_X2_29 3 i (cX_3 hi) (v := .ref (ad 4 i)) rfl dX2_cellsShowing_13 ?_
        have g_2 := wf.wd hi
        refine lv_iload_n hx hb dX2_cellsShowing_16 rfl (lv_at hl 3 rfl) ?_
        refine pi_rald (n := c.R 1 i) hx hb hC hP 4 i 1 rfl (cX_4 hi) (j := k) (by first | assumption | omega) (by omega) dX2_cellsShowing_17 (fun ed_17 => ?_) (fun y17 ed_17 => ?_)
        · skip
          have d_17 : c.sh i k = none := sh_none ed_17
          refine lv_aload_n hx hb dX2_cellsShowing_18 rfl (lv_at hl 1 rfl) ?_
          refine lv_acmp_ne (rx := none) (ry := some ((ad 7 j))) (tgt := 25) hx hb dX2_cellsShowing_19 (by decide) (fun c_19 => ?_) (fun c_19 => ?_)
          · skip
            refine lv_iincN (v := 1) (lv' := [(3, .int (nI (k + 1))), (0, .ref (ad 3 i)), (1, .ref (ad 7 j)), (2, .int (nI a))]) hx hb dX2_cellsShowing_25 hl (k := 3) rfl (by decide) (by decide) rfl (fun ls hl => ?_)
            refine lv_goto (tgt := 4) hx hb dX2_cellsShowing_28 (by decide) ?_
            exact ih4 (k + 1) a (by first | rfl | assumption | omega | (simp [ha, c_9, d_17]; done) | (simp_all [ha, c_9, d_17]; done)) (by first | exact (congrArg (· + 1) ha).trans (cntN_t (by simp [shwB, ha, c_9, d_17])).symm | exact ha.trans (cntN_f (by simp [shwB, ha, c_9, d_17])).symm) (by omega) _ (lv_sub hl [1, 2, 3, 0] rfl)
          · skip
            exact absurd c_19 (by simp)
        · skip
          obtain ⟨j_17, d_17, rfl⟩ := sh_some ed_17
          have d_17 : c.sh i k = some j_17 := d_17
          have hj_17 : j_17 < c.R 11 2 := wf.sj hi (show k < c.R 1 i by first | assumption | omega) d_17
          refine lv_aload_n hx hb dX2_cellsShowing_18 rfl (lv_at hl 1 rfl) ?_
          refine pi_acmp_ne (tgt := 25) hx hb hP 7 j_17 7 j (cX_7 hj_17) (cX_7 hj) dX2_cellsShowing_19 (by decide) (fun c_19 => ?_) (fun c_19 => ?_)
          · skip
            have c_19 : ¬ j_17 = j := fun z => c_19 ⟨rfl, z⟩
            refine lv_iincN (v := 1) (lv' := [(3, .int (nI (k + 1))), (0, .ref (ad 3 i)), (1, .ref (ad 7 j)), (2, .int (nI a))]) hx hb dX2_cellsShowing_25 hl (k := 3) rfl (by decide) (by decide) rfl (fun ls hl => ?_)
            refine lv_goto (tgt := 4) hx hb dX2_cellsShowing_28 (by decide) ?_
            exact ih4 (k + 1) a (by first | rfl | assumption | omega | (simp [ha, c_9, d_17, c_19]; done) | (simp_all [ha, c_9, d_17, c_19]; done)) (by first | exact (congrArg (· + 1) ha).trans (cntN_t (by simp [shwB, ha, c_9, d_17, c_19])).symm | exact ha.trans (cntN_f (by simp [shwB, ha, c_9, d_17, c_19])).symm) (by omega) _ (lv_sub hl [1, 2, 3, 0] rfl)
          · skip
            have c_19 := c_19.2
            refine lv_iincN (v := 1) (lv' := [(2, .int (nI (a + 1))), (0, .ref (ad 3 i)), (1, .ref (ad 7 j)), (3, .int (nI k))]) hx hb dX2_cellsShowing_22 hl (k := 2) rfl (by decide) (by decide) rfl (fun ls hl => ?_)
            refine lv_iincN (v := 1) (lv' := [(3, .int (nI (k + 1))), (2, .int (nI (a + 1))), (0, .ref (ad 3 i)), (1, .ref (ad 7 j))]) hx hb dX2_cellsShowing_25 hl (k := 3) rfl (by decide) (by decide) rfl (fun ls hl => ?_)
            refine lv_goto (tgt := 4) hx hb dX2_cellsShowing_28 (by decide) ?_
            exact ih4 (k + 1) (a + 1) (by first | rfl | assumption | omega | (simp [ha, c_9, d_17, c_19]; done) | (simp_all [ha, c_9, d_17, c_19]; done)) (by first | exact (congrArg (· + 1) ha).trans (cntN_t (by simp [shwB, ha, c_9, d_17, c_19])).symm | exact ha.trans (cntN_f (by simp [shwB, ha, c_9, d_17, c_19])).symm) (by omega) _ (lv_sub hl [2, 3, 1, 0] rfl)
  exact lp4 (c.R 1 i - 0 + 1) 0 0 (by first | rfl | assumption | omega | (simp []; done) | (simp_all []; done)) (rfl) (Nat.lt_succ_self _) _ (lv_sub hl [2, 3, 1, 0] rfl)
set_option maxHeartbeats 4000000 in
set_option maxRecDepth 100000 in
theorem mX2_paintedCells (l : Launch) {E : En} {c : Cy} {ly : Ly} {L : List Nat} {ad : Nat → Nat → Nat} {H : Heap} (hX : PX E c ly L ad H) (i : Nat) (hi : i < c.R 11 0) : RoI l yX2_paintedCells cX2_paintedCells 3 .int (rmk 0 0 0 0) [.ref (ad 3 i)] E H (nI (cntN (pntB c i) (c.R 1 i))) := by
  obtain ⟨hP, hly, hLb, wf⟩ := id hX
  refine ro_of (by decide) (Nat.le_of_ble_eq_true rfl) ?_
  intro p e s m below meth co ls hx hb hr hml hown hlocks hnm hC hU hl
  have hS : va_S noA s.heap H [] := by rw [hU]; exact va_S.rf
  have hAb : ∀ q, noA q → bA E q := fun _ h => h.elim
  have hl : lv_has ls 3 [(0, .ref (ad 3 i))] := hl
  refine lv_iconstN hx hb 0 dX2_paintedCells_0 (by decide) ?_
  refine lv_istore_n (lv' := [(1, .int (nI 0)), (0, .ref (ad 3 i))]) hx hb dX2_paintedCells_1 rfl hl (by decide) rfl (fun ls hl => ?_)
  refine lv_iconstN hx hb 0 dX2_paintedCells_2 (by decide) ?_
  refine lv_istore_n (lv' := [(2, .int (nI 0)), (1, .int (nI 0)), (0, .ref (ad 3 i))]) hx hb dX2_paintedCells_3 rfl hl (by decide) rfl (fun ls hl => ?_)
  have lp4 : ∀ fu : Nat, ∀ (k a : Nat), k ≤ c.R 1 i → a = cntN (pntB c i) k → c.R 1 i - k < fu → ∀ ls : Array Slot, lv_has ls 3 [(0, .ref (ad 3 i)), (1, .int (nI a)), (2, .int (nI k))] → W p l e (rmk 0 0 0 0) s m ([.ref (ad 3 i)] : List Value).toArray below meth co H [] 0 0 (MQ below (QiR (nI (cntN (pntB c i) (c.R 1 i))) H) ([.ref (ad 3 i)] : List Value).toArray s 0 0 noA) (F0 m 4 ls []) := by
    intro fu
    induction fu with
    | zero => intro k a hk ha hfu; exact absurd hfu (Nat.not_lt_zero _)
    | succ fu ih4 =>
      intro k a hk ha hfu ls hl
      refine lv_iload_n hx hb dX2_paintedCells_4 rfl (lv_at hl 2 rfl) ?_
      refine lv_aload_n hx hb dX2_paintedCells_5 rfl (lv_at hl 0 rfl) ?_
      refine pi_get hx hb hC hown hP fL_X2_15 3 i (cX_3 hi) (v := .int (nI (c.R 1 i))) rfl dX2_paintedCells_6 ?_
      have g_1 := wf.wd hi
      refine lv_icmpN_ge (tgt := 30) hx hb dX2_paintedCells_9 (by decide) (by omega) (by omega) (fun c_9 => ?_) (fun c_9 => ?_)
      · skip
        refine lv_iload_n hx hb dX2_paintedCells_30 rfl (lv_at hl 1 rfl) ?_
        exact ro_iret (x := nI a) hx hb hr hlocks hU (by rw [ha, show k = c.R 1 i by omega]) dX2_paintedCells_31
      · skip
        refine lv_aload_n hx hb dX2_paintedCells_12 rfl (lv_at hl 0 rfl) ?_
        refine pi_get hx hb hC hown hP fL_X2_29 3 i (cX_3 hi) (v := .ref (ad 4 i)) rfl dX2_paintedCells_13 ?_
        have g_2 := wf.wd hi
        refine lv_iload_n hx hb dX2_paintedCells_16 rfl (lv_at hl 2 rfl) ?_
        refine pi_rald (n := c.R 1 i) hx hb hC hP 4 i 1 rfl (cX_4 hi) (j := k) (by first | assumption | omega) (by omega) dX2_paintedCells_17 (fun ed_17 => ?_) (fun y17 ed_17 => ?_)
        · skip
          have d_17 : c.sh i k = none := sh_none ed_17
          refine lv_ifnullN (tgt := 24) hx hb dX2_paintedCells_18 (by decide) ?_
          refine lv_iincN (v := 1) (lv' := [(2, .int (nI (k + 1))), (0, .ref (ad 3 i)), (1, .int (nI a))]) hx hb dX2_paintedCells_24 hl (k := 2) rfl (by decide) (by decide) rfl (fun ls hl => ?_)
          refine lv_goto (tgt := 4) hx hb dX2_paintedCells_27 (by decide) ?_
          exact ih4 (k + 1) a (by first | rfl | assumption | omega | (simp [ha, c_9, d_17]; done) | (simp_all [ha, c_9, d_17]; done)) (by first | exact (congrArg (· + 1) ha).trans (cntN_t (by simp [pntB, ha, c_9, d_17])).symm | exact ha.trans (cntN_f (by simp [pntB, ha, c_9, d_17])).symm) (by omega) _ (lv_sub hl [1, 2, 0] rfl)
        · skip
          obtain ⟨j_17, d_17, rfl⟩ := sh_some ed_17
          have d_17 : c.sh i k = some j_17 := d_17
          have hj_17 : j_17 < c.R 11 2 := wf.sj hi (show k < c.R 1 i by first | assumption | omega) d_17
          refine lv_ifnull hx hb dX2_paintedCells_18 ?_
          refine lv_iincN (v := 1) (lv' := [(1, .int (nI (a + 1))), (0, .ref (ad 3 i)), (2, .int (nI k))]) hx hb dX2_paintedCells_21 hl (k := 1) rfl (by decide) (by decide) rfl (fun ls hl => ?_)
          refine lv_iincN (v := 1) (lv' := [(2, .int (nI (k + 1))), (1, .int (nI (a + 1))), (0, .ref (ad 3 i))]) hx hb dX2_paintedCells_24 hl (k := 2) rfl (by decide) (by decide) rfl (fun ls hl => ?_)
          refine lv_goto (tgt := 4) hx hb dX2_paintedCells_27 (by decide) ?_
          exact ih4 (k + 1) (a + 1) (by first | rfl | assumption | omega | (simp [ha, c_9, d_17]; done) | (simp_all [ha, c_9, d_17]; done)) (by first | exact (congrArg (· + 1) ha).trans (cntN_t (by simp [pntB, ha, c_9, d_17])).symm | exact ha.trans (cntN_f (by simp [pntB, ha, c_9, d_17])).symm) (by omega) _ (lv_sub hl [2, 1, 0] rfl)
  exact lp4 (c.R 1 i - 0 + 1) 0 0 (by first | rfl | assumption | omega | (simp []; done) | (simp_all []; done)) (rfl) (Nat.lt_succ_self _) _ (lv_sub hl [2, 1, 0] rfl)
set_option maxHeartbeats 4000000 in
set_option maxRecDepth 100000 in
theorem mX1_weight (l : Launch) {E : En} {c : Cy} {ly : Ly} {L : List Nat} {ad : Nat → Nat → Nat} {H : Heap} (hX : PX E c ly L ad H) (j : Nat) (hj : j < c.R 11 2) : RoI l yX1_weight cX1_weight 1 .int (rmk 0 0 0 0) [.ref (ad 7 j)] E H (wtf (c.R 9 j)) := by
  obtain ⟨hP, hly, hLb, wf⟩ := id hX
  refine ro_of (by decide) (Nat.le_of_ble_eq_true rfl) ?_
  intro p e s m below meth co ls hx hb hr hml hown hlocks hnm hC hU hl
  have hS : va_S noA s.heap H [] := by rw [hU]; exact va_S.rf
  have hAb : ∀ q, noA q → bA E q := fun _ h => h.elim
  have hl : lv_has ls 1 [(0, .ref (ad 7 j))] := hl
  refine gt_getN hx hb hC.2.2.1.1 hS hAb hown (va_Nw.use rfl (wn_t 390 (w := .fieldLinkNest "Wallcode$Layer" 48 "Wallcode" "WEIGHTS" "[I" "Wallcode") (by decide +kernel) (by decide +kernel) hC.2.1)) dX1_weight_0 ?_
  refine lv_aload_n hx hb dX1_weight_3 rfl (lv_at hl 0 rfl) ?_
  refine pi_get hx hb hC hown hP fL_X1_29 7 j (cX_7 hj) (v := .int (nI (c.R 9 j))) rfl dX1_weight_4 ?_
  have g_1 := wf.lk hj
  refine gt_ld hx hb hC.2.2.1.1 hS hAb (j := c.R 9 j) (by omega) dX1_weight_7 ?_
  exact ro_iret (x := wtf (c.R 9 j)) hx hb hr hlocks hU (by first | rfl | (simp []; done) | (simp []; omega) | (simp_all []; done)) dX1_weight_8
set_option maxHeartbeats 4000000 in
set_option maxRecDepth 100000 in
theorem mX2_fameAt (l : Launch) {E : En} {c : Cy} {ly : Ly} {L : List Nat} {ad : Nat → Nat → Nat} {H : Heap} (hX : PX E c ly L ad H) (i k h : Nat) (hi : i < c.R 11 0) (hk : k < c.R 1 i) (hh : h < c.R 11 1) : RoI l yX2_fameAt cX2_fameAt 4 .int (rmk 1 0 0 20) [.ref (ad 3 i), .int (nI k), .ref (ad 5 h)] E H (faS c i k h) := by
  obtain ⟨hP, hly, hLb, wf⟩ := id hX
  refine ro_of (by decide) (Nat.le_of_ble_eq_true rfl) ?_
  intro p e s m below meth co ls hx hb hr hml hown hlocks hnm hC hU hl
  have hS : va_S noA s.heap H [] := by rw [hU]; exact va_S.rf
  have hAb : ∀ q, noA q → bA E q := fun _ h => h.elim
  have hl : lv_has ls 4 [(0, .ref (ad 3 i)), (1, .int (nI k)), (2, .ref (ad 5 h))] := hl
  refine lv_aload_n hx hb dX2_fameAt_0 rfl (lv_at hl 0 rfl) ?_
  refine pi_get hx hb hC hown hP fL_X2_29 3 i (cX_3 hi) (v := .ref (ad 4 i)) rfl dX2_fameAt_1 ?_
  have g_1 := wf.wd hi
  refine lv_iload_n hx hb dX2_fameAt_4 rfl (lv_at hl 1 rfl) ?_
  refine pi_rald (n := c.R 1 i) hx hb hC hP 4 i 1 rfl (cX_4 hi) (j := k) (by first | assumption | omega) (by omega) dX2_fameAt_5 (fun ed_5 => ?_) (fun y5 ed_5 => ?_)
  · skip
    have d_5 : c.sh i k = none := sh_none ed_5
    refine lv_astore_nN (lv' := [(3, .null), (0, .ref (ad 3 i)), (1, .int (nI k)), (2, .ref (ad 5 h))]) hx hb dX2_fameAt_6 rfl hl (by decide) rfl (fun ls hl => ?_)
    refine lv_aload_nN hx hb dX2_fameAt_7 rfl (lv_at hl 0 rfl) ?_
    refine lv_ifnullN (tgt := 31) hx hb dX2_fameAt_8 (by decide) ?_
    refine lv_iconstN hx hb 0 dX2_fameAt_31 (by decide) ?_
    exact ro_iret (x := nI 0) hx hb hr hlocks hU (by first | rfl | (simp [faS, d_5]; done) | (simp [faS, d_5]; omega) | (simp_all [faS, d_5]; done)) dX2_fameAt_32
  · skip
    obtain ⟨j_5, d_5, rfl⟩ := sh_some ed_5
    have d_5 : c.sh i k = some j_5 := d_5
    have hj_5 : j_5 < c.R 11 2 := wf.sj hi (show k < c.R 1 i by first | assumption | omega) d_5
    refine lv_astore_n (lv' := [(3, .ref (ad 7 j_5)), (0, .ref (ad 3 i)), (1, .int (nI k)), (2, .ref (ad 5 h))]) hx hb dX2_fameAt_6 rfl hl (by decide) rfl (fun ls hl => ?_)
    refine lv_aload_n hx hb dX2_fameAt_7 rfl (lv_at hl 0 rfl) ?_
    refine lv_ifnull hx hb dX2_fameAt_8 ?_
    refine lv_aload_n hx hb dX2_fameAt_11 rfl (lv_at hl 0 rfl) ?_
    refine pi_get hx hb hC hown hP fL_X2_49 7 j_5 (cX_7 hj_5) (v := .ref (ad 5 (c.R 5 j_5))) rfl dX2_fameAt_12 ?_
    have g_2 := wf.lh hj_5
    refine lv_aload_n hx hb dX2_fameAt_15 rfl (lv_at hl 3 rfl) ?_
    refine pi_acmp_ne (tgt := 31) hx hb hP 5 (c.R 5 j_5) 5 h (cX_5 g_2) (cX_5 hh) dX2_fameAt_16 (by decide) (fun c_16 => ?_) (fun c_16 => ?_)
    · skip
      have c_16 : ¬ (c.R 5 j_5) = h := fun z => c_16 ⟨rfl, z⟩
      refine lv_iconstN hx hb 0 dX2_fameAt_31 (by decide) ?_
      exact ro_iret (x := nI 0) hx hb hr hlocks hU (by first | rfl | (simp [faS, d_5, c_16]; done) | (simp [faS, d_5, c_16]; omega) | (simp_all [faS, d_5, c_16]; done)) dX2_fameAt_32
    · skip
      have c_16 := c_16.2
      refine lv_aload_n hx hb dX2_fameAt_19 rfl (lv_at hl 1 rfl) ?_
      refine pi_get hx hb hC hown hP fL_X2_18 3 i (cX_3 hi) (v := .int (c.I 2 i)) rfl dX2_fameAt_20 ?_
      refine lv_aload_n hx hb dX2_fameAt_23 rfl (lv_at hl 0 rfl) ?_
      refine ro_V (As := []) (h0 := ad 7 j_5) (rest := [.int (c.I 2 i)]) (v := wtf (c.R 9 j_5)) hx hb hml hown hC hS hAb (mX1_weight l hX j_5 hj_5) kV_X2_53 ⟨rfl, rfl⟩ ⟨Nat.le_of_ble_eq_true rfl, Nat.le_of_ble_eq_true rfl⟩ (hP.recv hC (cX_7 hj_5) rfl) rfl hl (Nat.le_of_ble_eq_true rfl) ⟨Nat.zero_le _, Nat.zero_le _⟩ dX2_fameAt_24 ?_
      refine lv_imul hx hb dX2_fameAt_27 ?_
      refine lv_goto (tgt := 32) hx hb dX2_fameAt_28 (by decide) ?_
      exact ro_iret (x := (c.I 2 i) * (wtf (c.R 9 j_5))) hx hb hr hlocks hU (by first | rfl | (simp [faS, d_5, c_16]; done) | (simp [faS, d_5, c_16]; omega) | (simp_all [faS, d_5, c_16]; done)) dX2_fameAt_32
set_option maxHeartbeats 4000000 in
set_option maxRecDepth 100000 in
theorem mX2_fameOf (l : Launch) {E : En} {c : Cy} {ly : Ly} {L : List Nat} {ad : Nat → Nat → Nat} {H : Heap} (hX : PX E c ly L ad H) (i h : Nat) (hi : i < c.R 11 0) (hh : h < c.R 11 1) : RoI l yX2_fameOf cX2_fameOf 4 .int (rmk 2 0 0 43) [.ref (ad 3 i), .ref (ad 5 h)] E H (wfS c i h) := by
  obtain ⟨hP, hly, hLb, wf⟩ := id hX
  refine ro_of (by decide) (Nat.le_of_ble_eq_true rfl) ?_
  intro p e s m below meth co ls hx hb hr hml hown hlocks hnm hC hU hl
  have hS : va_S noA s.heap H [] := by rw [hU]; exact va_S.rf
  have hAb : ∀ q, noA q → bA E q := fun _ h => h.elim
  have hl : lv_has ls 4 [(0, .ref (ad 3 i)), (1, .ref (ad 5 h))] := hl
  refine lv_iconstN hx hb 0 dX2_fameOf_0 (by decide) ?_
  refine lv_istore_n (lv' := [(2, .int (nI 0)), (0, .ref (ad 3 i)), (1, .ref (ad 5 h))]) hx hb dX2_fameOf_1 rfl hl (by decide) rfl (fun ls hl => ?_)
  refine lv_iconstN hx hb 0 dX2_fameOf_2 (by decide) ?_
  refine lv_istore_n (lv' := [(3, .int (nI 0)), (2, .int (nI 0)), (0, .ref (ad 3 i)), (1, .ref (ad 5 h))]) hx hb dX2_fameOf_3 rfl hl (by decide) rfl (fun ls hl => ?_)
  have lp4 : ∀ fu : Nat, ∀ (k : Nat) (a : Int32), k ≤ c.R 1 i → a = smI (fun k => faS c i k h) k → c.R 1 i - k < fu → ∀ ls : Array Slot, lv_has ls 4 [(0, .ref (ad 3 i)), (1, .ref (ad 5 h)), (2, .int a), (3, .int (nI k))] → W p l e (rmk 2 0 0 43) s m ([.ref (ad 3 i), .ref (ad 5 h)] : List Value).toArray below meth co H [] 0 0 (MQ below (QiR (wfS c i h) H) ([.ref (ad 3 i), .ref (ad 5 h)] : List Value).toArray s 0 0 noA) (F0 m 4 ls []) := by
    intro fu
    induction fu with
    | zero => intro k a hk ha hfu; exact absurd hfu (Nat.not_lt_zero _)
    | succ fu ih4 =>
      intro k a hk ha hfu ls hl
      refine lv_iload_n hx hb dX2_fameOf_4 rfl (lv_at hl 3 rfl) ?_
      refine lv_aload_n hx hb dX2_fameOf_5 rfl (lv_at hl 0 rfl) ?_
      refine pi_get hx hb hC hown hP fL_X2_15 3 i (cX_3 hi) (v := .int (nI (c.R 1 i))) rfl dX2_fameOf_6 ?_
      have g_1 := wf.wd hi
      refine lv_icmpN_ge (tgt := 27) hx hb dX2_fameOf_9 (by decide) (by omega) (by omega) (fun c_9 => ?_) (fun c_9 => ?_)
      · skip
        refine lv_iload_n hx hb dX2_fameOf_27 rfl (lv_at hl 2 rfl) ?_
        exact ro_iret (x := a) hx hb hr hlocks hU (by rw [ha, show k = c.R 1 i by omega]; rfl) dX2_fameOf_28
      · skip
        refine lv_iload_n hx hb dX2_fameOf_12 rfl (lv_at hl 2 rfl) ?_
        refine lv_aload_n hx hb dX2_fameOf_13 rfl (lv_at hl 0 rfl) ?_
        refine lv_iload_n hx hb dX2_fameOf_14 rfl (lv_at hl 3 rfl) ?_
        refine lv_aload_n hx hb dX2_fameOf_15 rfl (lv_at hl 1 rfl) ?_
        refine ro_V (As := [.int (nI k), .ref (ad 5 h)]) (h0 := ad 3 i) (rest := [.int a]) (v := faS c i k h) hx hb hml hown hC hS hAb (mX2_fameAt l hX i k h hi (by first | assumption | omega | (simp only [decide_eq_false_iff_not, decide_eq_true_eq] at *; omega)) hh) kV_X2_45 ⟨rfl, rfl⟩ ⟨Nat.le_of_ble_eq_true rfl, Nat.le_of_ble_eq_true rfl⟩ (hP.recv hC (cX_3 hi) rfl) rfl hl (Nat.le_of_ble_eq_true rfl) ⟨Nat.zero_le _, Nat.zero_le _⟩ dX2_fameOf_16 ?_
        refine lv_iadd hx hb dX2_fameOf_19 ?_
        refine lv_istore_n (lv' := [(2, .int (a + (faS c i k h))), (0, .ref (ad 3 i)), (1, .ref (ad 5 h)), (3, .int (nI k))]) hx hb dX2_fameOf_20 rfl hl (by decide) rfl (fun ls hl => ?_)
        refine lv_iincN (v := 1) (lv' := [(3, .int (nI (k + 1))), (2, .int (a + (faS c i k h))), (0, .ref (ad 3 i)), (1, .ref (ad 5 h))]) hx hb dX2_fameOf_21 hl (k := 3) rfl (by decide) (by decide) rfl (fun ls hl => ?_)
        refine lv_goto (tgt := 4) hx hb dX2_fameOf_24 (by decide) ?_
        exact ih4 (k + 1) (a + (faS c i k h)) (by first | rfl | assumption | omega | (simp [ha, c_9]; done) | (simp_all [ha, c_9]; done)) (by rw [ha]; rfl) (by omega) _ (lv_sub hl [2, 3, 1, 0] rfl)
  exact lp4 (c.R 1 i - 0 + 1) 0 (nI 0) (by first | rfl | assumption | omega | (simp []; done) | (simp_all []; done)) (rfl) (Nat.lt_succ_self _) _ (lv_sub hl [2, 3, 1, 0] rfl)
set_option maxHeartbeats 4000000 in
set_option maxRecDepth 100000 in
theorem mX1_cellsSeen (l : Launch) {E : En} {c : Cy} {ly : Ly} {L : List Nat} {ad : Nat → Nat → Nat} {H : Heap} (hX : PX E c ly L ad H) (j : Nat) (hj : j < c.R 11 2) : RoI l yX1_cellsSeen cX1_cellsSeen 1 .int (rmk 1 0 0 23) [.ref (ad 7 j)] E H (nI (seenS c j)) := by
  obtain ⟨hP, hly, hLb, wf⟩ := id hX
  refine ro_of (by decide) (Nat.le_of_ble_eq_true rfl) ?_
  intro p e s m below meth co ls hx hb hr hml hown hlocks hnm hC hU hl
  have hS : va_S noA s.heap H [] := by rw [hU]; exact va_S.rf
  have hAb : ∀ q, noA q → bA E q := fun _ h => h.elim
  have hl : lv_has ls 1 [(0, .ref (ad 7 j))] := hl
  refine lv_aload_n hx hb dX1_cellsSeen_0 rfl (lv_at hl 0 rfl) ?_
  refine pi_get hx hb hC hown hP fL_X1_19 7 j (cX_7 hj) (v := .ref (ad 3 (c.R 6 j))) rfl dX1_cellsSeen_1 ?_
  have g_1 := wf.lw hj
  refine lv_aload_n hx hb dX1_cellsSeen_4 rfl (lv_at hl 0 rfl) ?_
  refine ro_V (As := [.ref (ad 7 j)]) (h0 := ad 3 (c.R 6 j)) (rest := []) (v := nI (csS c (c.R 6 j) j)) hx hb hml hown hC hS hAb (mX2_cellsShowing l hX (c.R 6 j) j (by first | assumption | omega | (simp only [decide_eq_false_iff_not, decide_eq_true_eq] at *; omega)) hj) kV_X1_52 ⟨rfl, rfl⟩ ⟨Nat.le_of_ble_eq_true rfl, Nat.le_of_ble_eq_true rfl⟩ (hP.recv hC (cX_3 g_1) rfl) rfl hl (Nat.le_of_ble_eq_true rfl) ⟨Nat.zero_le _, Nat.zero_le _⟩ dX1_cellsSeen_5 ?_
  exact ro_iret (x := nI (csS c (c.R 6 j) j)) hx hb hr hlocks hU (by first | rfl | (simp []; done) | (simp []; omega) | (simp_all []; done)) dX1_cellsSeen_8
set_option maxHeartbeats 4000000 in
set_option maxRecDepth 100000 in
theorem mX1_isSeen (l : Launch) {E : En} {c : Cy} {ly : Ly} {L : List Nat} {ad : Nat → Nat → Nat} {H : Heap} (hX : PX E c ly L ad H) (j : Nat) (hj : j < c.R 11 2) : RoI l yX1_isSeen cX1_isSeen 1 .boolean (rmk 2 0 0 43) [.ref (ad 7 j)] E H (bI (decide (0 < seenS c j))) := by
  obtain ⟨hP, hly, hLb, wf⟩ := id hX
  refine ro_of (by decide) (Nat.le_of_ble_eq_true rfl) ?_
  intro p e s m below meth co ls hx hb hr hml hown hlocks hnm hC hU hl
  have hS : va_S noA s.heap H [] := by rw [hU]; exact va_S.rf
  have hAb : ∀ q, noA q → bA E q := fun _ h => h.elim
  have hl : lv_has ls 1 [(0, .ref (ad 7 j))] := hl
  have gs : seenS c j ≤ 16 := Nat.le_trans (cntN_le _ _) (wf.wd (wf.lw hj)).2
  refine lv_aload_n hx hb dX1_isSeen_0 rfl (lv_at hl 0 rfl) ?_
  refine ro_V (As := []) (h0 := ad 7 j) (rest := []) (v := nI (seenS c j)) hx hb hml hown hC hS hAb (mX1_cellsSeen l hX j hj) kV_X1_58 ⟨rfl, rfl⟩ ⟨Nat.le_of_ble_eq_true rfl, Nat.le_of_ble_eq_true rfl⟩ (hP.recv hC (cX_7 hj) rfl) rfl hl (Nat.le_of_ble_eq_true rfl) ⟨Nat.zero_le _, Nat.zero_le _⟩ dX1_isSeen_1 ?_
  refine lv_ifN_le (tgt := 11) hx hb dX1_isSeen_4 (by decide) (by omega) (fun c_4 => ?_) (fun c_4 => ?_)
  · skip
    refine lv_iconstN hx hb 0 dX1_isSeen_11 (by decide) ?_
    exact ro_zretB (b1 := false) hx hb hr hlocks hU (by decide) (by first | rfl | (simp [bI, c_4]; done) | (simp [bI, c_4]; omega) | (simp_all [bI, c_4]; done)) dX1_isSeen_12
  · skip
    refine lv_iconstN hx hb 1 dX1_isSeen_7 (by decide) ?_
    refine lv_goto (tgt := 12) hx hb dX1_isSeen_8 (by decide) ?_
    exact ro_zretB (b1 := true) hx hb hr hlocks hU (by decide) (by first | rfl | (simp [bI, c_4]; done) | (simp [bI, c_4]; omega) | (simp_all [bI, c_4]; done)) dX1_isSeen_12
set_option maxHeartbeats 4000000 in
set_option maxRecDepth 100000 in
theorem mX1_hasRights (l : Launch) {E : En} {c : Cy} {ly : Ly} {L : List Nat} {ad : Nat → Nat → Nat} {H : Heap} (hX : PX E c ly L ad H) (j : Nat) (hj : j < c.R 11 2) : RoI l yX1_hasRights cX1_hasRights 1 .boolean (rmk 0 0 0 0) [.ref (ad 7 j)] E H (bI (hrS c j)) := by
  obtain ⟨hP, hly, hLb, wf⟩ := id hX
  refine ro_of (by decide) (Nat.le_of_ble_eq_true rfl) ?_
  intro p e s m below meth co ls hx hb hr hml hown hlocks hnm hC hU hl
  have hS : va_S noA s.heap H [] := by rw [hU]; exact va_S.rf
  have hAb : ∀ q, noA q → bA E q := fun _ h => h.elim
  have hl : lv_has ls 1 [(0, .ref (ad 7 j))] := hl
  refine lv_aload_n hx hb dX1_hasRights_0 rfl (lv_at hl 0 rfl) ?_
  refine pi_get hx hb hC hown hP fL_X1_38 7 j (cX_7 hj) (v := .int (bI (c.B 1 j))) rfl dX1_hasRights_1 ?_
  refine lv_bif_eq (tgt := 26) hx hb dX1_hasRights_4 (by decide) (fun c_4 => ?_) (fun c_4 => ?_)
  · skip
    refine lv_iconstN hx hb 0 dX1_hasRights_26 (by decide) ?_
    exact ro_zretB (b1 := false) hx hb hr hlocks hU (by decide) (by first | rfl | (simp [hrS, c_4]; done) | (simp [hrS, c_4]; omega) | (simp_all [hrS, c_4]; done)) dX1_hasRights_27
  · skip
    refine lv_aload_n hx hb dX1_hasRights_7 rfl (lv_at hl 0 rfl) ?_
    refine pi_get hx hb hC hown hP fL_X1_29 7 j (cX_7 hj) (v := .int (nI (c.R 9 j))) rfl dX1_hasRights_8 ?_
    have g_1 := wf.lk hj
    refine lv_iconstN hx hb 2 dX1_hasRights_11 (by decide) ?_
    refine lv_icmpN_lt (tgt := 26) hx hb dX1_hasRights_12 (by decide) (by omega) (by omega) (fun c_12 => ?_) (fun c_12 => ?_)
    · skip
      refine lv_iconstN hx hb 0 dX1_hasRights_26 (by decide) ?_
      exact ro_zretB (b1 := false) hx hb hr hlocks hU (by decide) (by first | rfl | (simp [hrS, c_4, c_12]; done) | (simp [hrS, c_4, c_12]; omega) | (simp_all [hrS, c_4, c_12]; done)) dX1_hasRights_27
    · skip
      refine lv_aload_n hx hb dX1_hasRights_15 rfl (lv_at hl 0 rfl) ?_
      refine pi_get hx hb hC hown hP fL_X1_42 7 j (cX_7 hj) (v := .int (bI (c.B 2 j))) rfl dX1_hasRights_16 ?_
      refine lv_bif_ne (tgt := 26) hx hb dX1_hasRights_19 (by decide) (fun c_19 => ?_) (fun c_19 => ?_)
      · skip
        refine lv_iconstN hx hb 0 dX1_hasRights_26 (by decide) ?_
        exact ro_zretB (b1 := false) hx hb hr hlocks hU (by decide) (by first | rfl | (simp [hrS, c_4, c_12, c_19]; done) | (simp [hrS, c_4, c_12, c_19]; omega) | (simp_all [hrS, c_4, c_12, c_19]; done)) dX1_hasRights_27
      · skip
        refine lv_iconstN hx hb 1 dX1_hasRights_22 (by decide) ?_
        refine lv_goto (tgt := 27) hx hb dX1_hasRights_23 (by decide) ?_
        exact ro_zretB (b1 := true) hx hb hr hlocks hU (by decide) (by first | rfl | (simp [hrS, c_4, c_12, c_19]; done) | (simp [hrS, c_4, c_12, c_19]; omega) | (simp_all [hrS, c_4, c_12, c_19]; done)) dX1_hasRights_27
set_option maxHeartbeats 4000000 in
set_option maxRecDepth 100000 in
theorem mX1_slantShown (l : Launch) {E : En} {c : Cy} {ly : Ly} {L : List Nat} {ad : Nat → Nat → Nat} {H : Heap} (hX : PX E c ly L ad H) (j : Nat) (hj : j < c.R 11 2) : RoI l yX1_slantShown cX1_slantShown 1 .int (rmk 0 0 0 0) [.ref (ad 7 j)] E H (slS c j) := by
  obtain ⟨hP, hly, hLb, wf⟩ := id hX
  refine ro_of (by decide) (Nat.le_of_ble_eq_true rfl) ?_
  intro p e s m below meth co ls hx hb hr hml hown hlocks hnm hC hU hl
  have hS : va_S noA s.heap H [] := by rw [hU]; exact va_S.rf
  have hAb : ∀ q, noA q → bA E q := fun _ h => h.elim
  have hl : lv_has ls 1 [(0, .ref (ad 7 j))] := hl
  refine lv_aload_n hx hb dX1_slantShown_0 rfl (lv_at hl 0 rfl) ?_
  refine pi_get hx hb hC hown hP fL_X1_15 7 j (cX_7 hj) (v := .ref (ad 5 (c.R 5 j))) rfl dX1_slantShown_1 ?_
  have g_1 := wf.lh hj
  refine pi_get hx hb hC hown hP fL_X1_62 5 (c.R 5 j) (cX_5 g_1) (v := .int (c.I 9 (c.R 5 j))) rfl dX1_slantShown_4 ?_
  refine lv_aload_n hx hb dX1_slantShown_7 rfl (lv_at hl 0 rfl) ?_
  refine pi_get hx hb hC hown hP fL_X1_32 7 j (cX_7 hj) (v := .int (c.I 15 j)) rfl dX1_slantShown_8 ?_
  refine lv_iadd hx hb dX1_slantShown_11 ?_
  exact ro_iret (x := (c.I 9 (c.R 5 j)) + (c.I 15 j)) hx hb hr hlocks hU (by first | rfl | (simp []; done) | (simp []; omega) | (simp_all []; done)) dX1_slantShown_12
set_option maxHeartbeats 4000000 in
set_option maxRecDepth 100000 in
theorem mX1_roundShown (l : Launch) {E : En} {c : Cy} {ly : Ly} {L : List Nat} {ad : Nat → Nat → Nat} {H : Heap} (hX : PX E c ly L ad H) (j : Nat) (hj : j < c.R 11 2) : RoI l yX1_roundShown cX1_roundShown 1 .int (rmk 0 0 0 0) [.ref (ad 7 j)] E H (rdS c j) := by
  obtain ⟨hP, hly, hLb, wf⟩ := id hX
  refine ro_of (by decide) (Nat.le_of_ble_eq_true rfl) ?_
  intro p e s m below meth co ls hx hb hr hml hown hlocks hnm hC hU hl
  have hS : va_S noA s.heap H [] := by rw [hU]; exact va_S.rf
  have hAb : ∀ q, noA q → bA E q := fun _ h => h.elim
  have hl : lv_has ls 1 [(0, .ref (ad 7 j))] := hl
  refine lv_aload_n hx hb dX1_roundShown_0 rfl (lv_at hl 0 rfl) ?_
  refine pi_get hx hb hC hown hP fL_X1_15 7 j (cX_7 hj) (v := .ref (ad 5 (c.R 5 j))) rfl dX1_roundShown_1 ?_
  have g_1 := wf.lh hj
  refine pi_get hx hb hC hown hP fL_X1_67 5 (c.R 5 j) (cX_5 g_1) (v := .int (c.I 10 (c.R 5 j))) rfl dX1_roundShown_4 ?_
  refine lv_aload_n hx hb dX1_roundShown_7 rfl (lv_at hl 0 rfl) ?_
  refine pi_get hx hb hC hown hP fL_X1_32 7 j (cX_7 hj) (v := .int (c.I 15 j)) rfl dX1_roundShown_8 ?_
  refine lv_isub hx hb dX1_roundShown_11 ?_
  exact ro_iret (x := (c.I 10 (c.R 5 j)) - (c.I 15 j)) hx hb hr hlocks hU (by first | rfl | (simp []; done) | (simp []; omega) | (simp_all []; done)) dX1_roundShown_12
set_option maxHeartbeats 4000000 in
set_option maxRecDepth 100000 in
theorem mX0_minutesOfCell (l : Launch) {E : En} {c : Cy} {ly : Ly} {L : List Nat} {ad : Nat → Nat → Nat} {H : Heap} (hX : PX E c ly L ad H) (h k : Nat) (hh : h < c.R 11 1) (hk : k < 4) : RoI l yX0_minutesOfCell cX0_minutesOfCell 2 .int (rmk 0 0 0 0) [.ref (ad 5 h), .int (nI k)] E H (nI (mcS c h k)) := by
  obtain ⟨hP, hly, hLb, wf⟩ := id hX
  refine ro_of (by decide) (Nat.le_of_ble_eq_true rfl) ?_
  intro p e s m below meth co ls hx hb hr hml hown hlocks hnm hC hU hl
  have hS : va_S noA s.heap H [] := by rw [hU]; exact va_S.rf
  have hAb : ∀ q, noA q → bA E q := fun _ h => h.elim
  have hl : lv_has ls 2 [(0, .ref (ad 5 h)), (1, .int (nI k))] := hl
  have gt := tkN_le k
  refine gt_getN hx hb hC.2.2.1.2.1 hS hAb hown (va_Nw.use rfl (wn_t 688 (w := .fieldLinkNest "Wallcode$Hand" 47 "Wallcode" "CELL_MINUTES" "[I" "Wallcode") (by decide +kernel) (by decide +kernel) hC.2.1)) dX0_minutesOfCell_0 ?_
  refine lv_iload_n hx hb dX0_minutesOfCell_3 rfl (lv_at hl 1 rfl) ?_
  refine gt_ld hx hb hC.2.2.1.2.1 hS hAb (j := k) (by omega) dX0_minutesOfCell_4 ?_
  rw [tkf_N]
  refine lv_aload_n hx hb dX0_minutesOfCell_5 rfl (lv_at hl 0 rfl) ?_
  refine pi_get hx hb hC hown hP fL_X0_18 5 h (cX_5 hh) (v := .int (nI (c.R 4 h))) rfl dX0_minutesOfCell_6 ?_
  have g_1 := wf.sp hh
  refine lv_iaddN hx hb dX0_minutesOfCell_9 ?_
  refine lv_iconstN hx hb 1 dX0_minutesOfCell_10 (by decide) ?_
  refine lv_isubN hx hb dX0_minutesOfCell_11 (by omega) ?_
  refine lv_aload_n hx hb dX0_minutesOfCell_12 rfl (lv_at hl 0 rfl) ?_
  refine pi_get hx hb hC hown hP fL_X0_18 5 h (cX_5 hh) (v := .int (nI (c.R 4 h))) rfl dX0_minutesOfCell_13 ?_
  refine lv_idivN hx hb dX0_minutesOfCell_16 (by omega) (by omega) (by omega) ?_
  exact ro_iret (x := nI ((((tkN k) + (c.R 4 h)) - 1) / (c.R 4 h))) hx hb hr hlocks hU (by first | rfl | (simp []; done) | (simp []; omega) | (simp_all []; done)) dX0_minutesOfCell_17
set_option maxHeartbeats 4000000 in
set_option maxRecDepth 100000 in
theorem mX0_minutesLeft (l : Launch) {E : En} {c : Cy} {ly : Ly} {L : List Nat} {ad : Nat → Nat → Nat} {H : Heap} (hX : PX E c ly L ad H) (h : Nat) (hh : h < c.R 11 1) : RoI l yX0_minutesLeft cX0_minutesLeft 1 .int (rmk 0 0 0 0) [.ref (ad 5 h)] E H (nI (360 - c.R 3 h)) := by
  obtain ⟨hP, hly, hLb, wf⟩ := id hX
  refine ro_of (by decide) (Nat.le_of_ble_eq_true rfl) ?_
  intro p e s m below meth co ls hx hb hr hml hown hlocks hnm hC hU hl
  have hS : va_S noA s.heap H [] := by rw [hU]; exact va_S.rf
  have hAb : ∀ q, noA q → bA E q := fun _ h => h.elim
  have hl : lv_has ls 1 [(0, .ref (ad 5 h))] := hl
  refine lv_sipushN hx hb 360 dX0_minutesLeft_0 (by decide) ?_
  refine lv_aload_n hx hb dX0_minutesLeft_3 rfl (lv_at hl 0 rfl) ?_
  refine pi_get hx hb hC hown hP fL_X0_31 5 h (cX_5 hh) (v := .int (nI (c.R 3 h))) rfl dX0_minutesLeft_4 ?_
  have g_1 := wf.us hh
  refine lv_isubN hx hb dX0_minutesLeft_7 (by omega) ?_
  exact ro_iret (x := nI (360 - (c.R 3 h))) hx hb hr hlocks hU (by first | rfl | (simp []; done) | (simp []; omega) | (simp_all []; done)) dX0_minutesLeft_8
set_option maxHeartbeats 4000000 in
set_option maxRecDepth 100000 in
theorem mX0_wrongsDone (l : Launch) {E : En} {c : Cy} {ly : Ly} {L : List Nat} {ad : Nat → Nat → Nat} {H : Heap} (hX : PX E c ly L ad H) (h : Nat) (hh : h < c.R 11 1) : RoI l yX0_wrongsDone cX0_wrongsDone 3 .int (rmk 0 0 0 0) [.ref (ad 5 h)] E H (smI (c.Wr h) 8) := by
  obtain ⟨hP, hly, hLb, wf⟩ := id hX
  refine ro_of (by decide) (Nat.le_of_ble_eq_true rfl) ?_
  intro p e s m below meth co ls hx hb hr hml hown hlocks hnm hC hU hl
  have hS : va_S noA s.heap H [] := by rw [hU]; exact va_S.rf
  have hAb : ∀ q, noA q → bA E q := fun _ h => h.elim
  have hl : lv_has ls 3 [(0, .ref (ad 5 h))] := hl
  refine lv_iconstN hx hb 0 dX0_wrongsDone_0 (by decide) ?_
  refine lv_istore_n (lv' := [(1, .int (nI 0)), (0, .ref (ad 5 h))]) hx hb dX0_wrongsDone_1 rfl hl (by decide) rfl (fun ls hl => ?_)
  refine lv_iconstN hx hb 0 dX0_wrongsDone_2 (by decide) ?_
  refine lv_istore_n (lv' := [(2, .int (nI 0)), (1, .int (nI 0)), (0, .ref (ad 5 h))]) hx hb dX0_wrongsDone_3 rfl hl (by decide) rfl (fun ls hl => ?_)
  have lp4 : ∀ fu : Nat, ∀ (k : Nat) (a : Int32), k ≤ 8 → a = smI (c.Wr h) k → 8 - k < fu → ∀ ls : Array Slot, lv_has ls 3 [(0, .ref (ad 5 h)), (1, .int a), (2, .int (nI k))] → W p l e (rmk 0 0 0 0) s m ([.ref (ad 5 h)] : List Value).toArray below meth co H [] 0 0 (MQ below (QiR (smI (c.Wr h) 8) H) ([.ref (ad 5 h)] : List Value).toArray s 0 0 noA) (F0 m 4 ls []) := by
    intro fu
    induction fu with
    | zero => intro k a hk ha hfu; exact absurd hfu (Nat.not_lt_zero _)
    | succ fu ih4 =>
      intro k a hk ha hfu ls hl
      refine lv_iload_n hx hb dX0_wrongsDone_4 rfl (lv_at hl 2 rfl) ?_
      refine lv_bipushN hx hb 8 dX0_wrongsDone_5 (by decide) ?_
      refine lv_icmpN_ge (tgt := 25) hx hb dX0_wrongsDone_7 (by decide) (by omega) (by omega) (fun c_7 => ?_) (fun c_7 => ?_)
      · skip
        refine lv_iload_n hx hb dX0_wrongsDone_25 rfl (lv_at hl 1 rfl) ?_
        exact ro_iret (x := a) hx hb hr hlocks hU (by rw [ha, show k = 8 by omega]) dX0_wrongsDone_26
      · skip
        refine lv_iload_n hx hb dX0_wrongsDone_10 rfl (lv_at hl 1 rfl) ?_
        refine lv_aload_n hx hb dX0_wrongsDone_11 rfl (lv_at hl 0 rfl) ?_
        refine pi_get hx hb hC hown hP fL_X0_27 5 h (cX_5 hh) (v := .ref (ad 6 h)) rfl dX0_wrongsDone_12 ?_
        refine lv_iload_n hx hb dX0_wrongsDone_15 rfl (lv_at hl 2 rfl) ?_
        refine pi_iald hx hb hC hP 6 h (cX_6 hh) (j := k) (by omega) (by omega) dX0_wrongsDone_16 ?_
        refine lv_iadd hx hb dX0_wrongsDone_17 ?_
        refine lv_istore_n (lv' := [(1, .int (a + (c.Wr h k))), (0, .ref (ad 5 h)), (2, .int (nI k))]) hx hb dX0_wrongsDone_18 rfl hl (by decide) rfl (fun ls hl => ?_)
        refine lv_iincN (v := 1) (lv' := [(2, .int (nI (k + 1))), (1, .int (a + (c.Wr h k))), (0, .ref (ad 5 h))]) hx hb dX0_wrongsDone_19 hl (k := 2) rfl (by decide) (by decide) rfl (fun ls hl => ?_)
        refine lv_goto (tgt := 4) hx hb dX0_wrongsDone_22 (by decide) ?_
        exact ih4 (k + 1) (a + (c.Wr h k)) (by first | rfl | assumption | omega | (simp [ha, c_7]; done) | (simp_all [ha, c_7]; done)) (by rw [ha]; rfl) (by omega) _ (lv_sub hl [2, 1, 0] rfl)
  exact lp4 (8 - 0 + 1) 0 (nI 0) (by first | rfl | assumption | omega | (simp []; done) | (simp_all []; done)) (rfl) (Nat.lt_succ_self _) _ (lv_sub hl [2, 1, 0] rfl)
