set_option maxHeartbeats 4000000 in
set_option maxRecDepth 100000 in
theorem mX3_isPermitted (l : Launch) {E : En} {c : Cy} {ly : Ly} {L : List Nat} {ad : Nat → Nat → Nat} {H : Heap} (hX : PX E c ly L ad H) (h i : Nat) (hh : h < c.R 11 1) (hi : i < c.R 11 0) : RoI l yX3_isPermitted cX3_isPermitted 3 .boolean (rmk 1 0 0 21) [.ref (ad 0 0), .ref (ad 5 h), .ref (ad 3 i)] E H (bI (permS c h i)) := by
  obtain ⟨hP, hly, hLb, wf⟩ := id hX
  refine ro_of (by decide) (Nat.le_of_ble_eq_true rfl) ?_
  intro p e s m below meth co ls hx hb hr hml hown hlocks hnm hC hU hl
  have hS : va_S noA s.heap H [] := by rw [hU]; exact va_S.rf
  have hAb : ∀ q, noA q → bA E q := fun _ h => h.elim
  have hl : lv_has ls 3 [(0, .ref (ad 0 0)), (1, .ref (ad 5 h)), (2, .ref (ad 3 i))] := hl
  refine lv_aload_n hx hb dX3_isPermitted_0 rfl (lv_at hl 2 rfl) ?_
  refine lv_aload_n hx hb dX3_isPermitted_1 rfl (lv_at hl 0 rfl) ?_
  refine pi_get hx hb hC hown hP fL_X3_22 0 0 cX_0 (v := .int (nI (c.R 0 0))) rfl dX3_isPermitted_2 ?_
  have g_1 := wf.nt
  refine ro_V (As := [.int (nI (c.R 0 0))]) (h0 := ad 3 i) (rest := []) (v := pcS c i (nI (c.R 0 0))) hx hb hml hown hC hS hAb (mX2_permittedCrew l hX i (nI (c.R 0 0)) hi) kV_X3_74 ⟨rfl, rfl⟩ ⟨Nat.le_of_ble_eq_true rfl, Nat.le_of_ble_eq_true rfl⟩ (hP.recv hC (cX_3 hi) rfl) rfl hl (Nat.le_of_ble_eq_true rfl) ⟨Nat.zero_le _, Nat.zero_le _⟩ dX3_isPermitted_5 ?_
  refine lv_aload_n hx hb dX3_isPermitted_8 rfl (lv_at hl 1 rfl) ?_
  refine pi_get hx hb hC hown hP fL_X3_243 5 h (cX_5 hh) (v := .int (c.I 8 h)) rfl dX3_isPermitted_9 ?_
  refine lv_icmp_ne (tgt := 19) hx hb dX3_isPermitted_12 (by decide) (fun c_12 => ?_) (fun c_12 => ?_)
  · skip
    refine lv_iconstN hx hb 0 dX3_isPermitted_19 (by decide) ?_
    exact ro_zretB (b1 := false) hx hb hr hlocks hU (by decide) (by first | rfl | (simp [permS, c_12]; done) | (simp [permS, c_12]; omega) | (simp_all [permS, c_12]; done)) dX3_isPermitted_20
  · skip
    refine lv_iconstN hx hb 1 dX3_isPermitted_15 (by decide) ?_
    refine lv_goto (tgt := 20) hx hb dX3_isPermitted_16 (by decide) ?_
    exact ro_zretB (b1 := true) hx hb hr hlocks hU (by decide) (by first | rfl | (simp [permS, c_12]; done) | (simp [permS, c_12]; omega) | (simp_all [permS, c_12]; done)) dX3_isPermitted_20
set_option maxHeartbeats 4000000 in
set_option maxRecDepth 100000 in
theorem mX3_isWronged (l : Launch) {E : En} {c : Cy} {ly : Ly} {L : List Nat} {ad : Nat → Nat → Nat} {H : Heap} (hX : PX E c ly L ad H) (h i j kd : Nat) (hh : h < c.R 11 1) (hi : i < c.R 11 0) (hj : j < c.R 11 2) (hkd : kd < 4) : RoI l yX3_isWronged cX3_isWronged 5 .boolean (rmk 2 0 0 43) [.ref (ad 0 0), .ref (ad 5 h), .ref (ad 3 i), .ref (ad 7 j), .int (nI kd)] E H (bI (iswS c h i j kd)) := by
  obtain ⟨hP, hly, hLb, wf⟩ := id hX
  refine ro_of (by decide) (Nat.le_of_ble_eq_true rfl) ?_
  intro p e s m below meth co ls hx hb hr hml hown hlocks hnm hC hU hl
  have hS : va_S noA s.heap H [] := by rw [hU]; exact va_S.rf
  have hAb : ∀ q, noA q → bA E q := fun _ h => h.elim
  have hl : lv_has ls 5 [(0, .ref (ad 0 0)), (1, .ref (ad 5 h)), (2, .ref (ad 3 i)), (3, .ref (ad 7 j)), (4, .int (nI kd))] := hl
  refine lv_aload_n hx hb dX3_isWronged_0 rfl (lv_at hl 3 rfl) ?_
  refine pi_get hx hb hC hown hP fL_X3_172 7 j (cX_7 hj) (v := .ref (ad 5 (c.R 5 j))) rfl dX3_isWronged_1 ?_
  have g_1 := wf.lh hj
  refine lv_aload_n hx hb dX3_isWronged_4 rfl (lv_at hl 1 rfl) ?_
  refine pi_acmp_ne (tgt := 10) hx hb hP 5 (c.R 5 j) 5 h (cX_5 g_1) (cX_5 hh) dX3_isWronged_5 (by decide) (fun c_5 => ?_) (fun c_5 => ?_)
  · skip
    have c_5 : ¬ (c.R 5 j) = h := fun z => c_5 ⟨rfl, z⟩
    refine lv_aload_n hx hb dX3_isWronged_10 rfl (lv_at hl 3 rfl) ?_
    refine pi_get hx hb hC hown hP fL_X3_205 7 j (cX_7 hj) (v := .int (bI (c.B 3 j))) rfl dX3_isWronged_11 ?_
    refine lv_bif_eq (tgt := 19) hx hb dX3_isWronged_14 (by decide) (fun c_14 => ?_) (fun c_14 => ?_)
    · skip
      refine lv_aload_n hx hb dX3_isWronged_19 rfl (lv_at hl 3 rfl) ?_
      refine pi_get hx hb hC hown hP fL_X3_172 7 j (cX_7 hj) (v := .ref (ad 5 (c.R 5 j))) rfl dX3_isWronged_20 ?_
      refine pi_get hx hb hC hown hP fL_X3_243 5 (c.R 5 j) (cX_5 g_1) (v := .int (c.I 8 (c.R 5 j))) rfl dX3_isWronged_23 ?_
      refine lv_aload_n hx hb dX3_isWronged_26 rfl (lv_at hl 1 rfl) ?_
      refine pi_get hx hb hC hown hP fL_X3_243 5 h (cX_5 hh) (v := .int (c.I 8 h)) rfl dX3_isWronged_27 ?_
      refine lv_icmp_eq (tgt := 69) hx hb dX3_isWronged_30 (by decide) (fun c_30 => ?_) (fun c_30 => ?_)
      · skip
        refine lv_iconstN hx hb 0 dX3_isWronged_69 (by decide) ?_
        exact ro_zretB (b1 := false) hx hb hr hlocks hU (by decide) (by first | rfl | (simp [iswS, c_5, c_14, c_30]; done) | (simp [iswS, c_5, c_14, c_30]; omega) | (simp_all [iswS, c_5, c_14, c_30]; done)) dX3_isWronged_70
      · skip
        refine lv_iload hx hb dX3_isWronged_33 (lv_at hl 4 rfl) ?_
        refine lv_aload_n hx hb dX3_isWronged_35 rfl (lv_at hl 3 rfl) ?_
        refine pi_get hx hb hC hown hP fL_X3_278 7 j (cX_7 hj) (v := .int (nI (c.R 9 j))) rfl dX3_isWronged_36 ?_
        have g_2 := wf.lk hj
        refine lv_icmpN_gt (tgt := 69) hx hb dX3_isWronged_39 (by decide) (by omega) (by omega) (fun c_39 => ?_) (fun c_39 => ?_)
        · skip
          refine lv_iconstN hx hb 0 dX3_isWronged_69 (by decide) ?_
          exact ro_zretB (b1 := false) hx hb hr hlocks hU (by decide) (by first | rfl | (simp [iswS, c_5, c_14, c_30, c_39]; done) | (simp [iswS, c_5, c_14, c_30, c_39]; omega) | (simp_all [iswS, c_5, c_14, c_30, c_39]; done)) dX3_isWronged_70
        · skip
          refine lv_aload_n hx hb dX3_isWronged_42 rfl (lv_at hl 0 rfl) ?_
          refine pi_get hx hb hC hown hP fL_X3_22 0 0 cX_0 (v := .int (nI (c.R 0 0))) rfl dX3_isWronged_43 ?_
          have g_3 := wf.nt
          refine lv_aload_n hx hb dX3_isWronged_46 rfl (lv_at hl 3 rfl) ?_
          refine pi_get hx hb hC hown hP fL_X3_123 7 j (cX_7 hj) (v := .int (c.I 16 j)) rfl dX3_isWronged_47 ?_
          refine lv_isub hx hb dX3_isWronged_50 ?_
          refine lv_bipushN hx hb 20 dX3_isWronged_51 (by decide) ?_
          refine lv_icmp_ge (tgt := 69) hx hb dX3_isWronged_53 (by decide) (fun c_53 => ?_) (fun c_53 => ?_)
          · skip
            have c_53 := Int32.not_lt.mpr c_53
            refine lv_iconstN hx hb 0 dX3_isWronged_69 (by decide) ?_
            exact ro_zretB (b1 := false) hx hb hr hlocks hU (by decide) (by first | rfl | (simp [iswS, c_5, c_14, c_30, c_39, c_53]; done) | (simp [iswS, c_5, c_14, c_30, c_39, c_53]; omega) | (simp_all [iswS, c_5, c_14, c_30, c_39, c_53]; done)) dX3_isWronged_70
          · skip
            have c_53 := Int32.not_le.mp c_53
            refine lv_aload_n hx hb dX3_isWronged_56 rfl (lv_at hl 0 rfl) ?_
            refine lv_aload_n hx hb dX3_isWronged_57 rfl (lv_at hl 1 rfl) ?_
            refine lv_aload_n hx hb dX3_isWronged_58 rfl (lv_at hl 2 rfl) ?_
            refine ro_V (As := [.ref (ad 5 h), .ref (ad 3 i)]) (h0 := ad 0 0) (rest := []) (v := bI (permS c h i)) hx hb hml hown hC hS hAb (mX3_isPermitted l hX h i hh hi) kV_X3_126 ⟨rfl, rfl⟩ ⟨Nat.le_of_ble_eq_true rfl, Nat.le_of_ble_eq_true rfl⟩ (hP.recv hC cX_0 rfl) rfl hl (Nat.le_of_ble_eq_true rfl) ⟨Nat.zero_le _, Nat.zero_le _⟩ dX3_isWronged_59 ?_
            refine lv_bif_ne (tgt := 69) hx hb dX3_isWronged_62 (by decide) (fun c_62 => ?_) (fun c_62 => ?_)
            · skip
              refine lv_iconstN hx hb 0 dX3_isWronged_69 (by decide) ?_
              exact ro_zretB (b1 := false) hx hb hr hlocks hU (by decide) (by first | rfl | (simp [iswS, c_5, c_14, c_30, c_39, c_53, c_62]; done) | (simp [iswS, c_5, c_14, c_30, c_39, c_53, c_62]; omega) | (simp_all [iswS, c_5, c_14, c_30, c_39, c_53, c_62]; done)) dX3_isWronged_70
            · skip
              refine lv_iconstN hx hb 1 dX3_isWronged_65 (by decide) ?_
              refine lv_goto (tgt := 70) hx hb dX3_isWronged_66 (by decide) ?_
              exact ro_zretB (b1 := true) hx hb hr hlocks hU (by decide) (by first | rfl | (simp [iswS, c_5, c_14, c_30, c_39, c_53, c_62]; done) | (simp [iswS, c_5, c_14, c_30, c_39, c_53, c_62]; omega) | (simp_all [iswS, c_5, c_14, c_30, c_39, c_53, c_62]; done)) dX3_isWronged_70
    · skip
      refine lv_iconstN hx hb 1 dX3_isWronged_17 (by decide) ?_
      exact ro_zretB (b1 := true) hx hb hr hlocks hU (by decide) (by first | rfl | (simp [iswS, c_5, c_14]; done) | (simp [iswS, c_5, c_14]; omega) | (simp_all [iswS, c_5, c_14]; done)) dX3_isWronged_18
  · skip
    have c_5 := c_5.2
    refine lv_iconstN hx hb 0 dX3_isWronged_8 (by decide) ?_
    exact ro_zretB (b1 := false) hx hb hr hlocks hU (by decide) (by first | rfl | (simp [iswS, c_5]; done) | (simp [iswS, c_5]; omega) | (simp_all [iswS, c_5]; done)) dX3_isWronged_9
set_option maxHeartbeats 4000000 in
set_option maxRecDepth 100000 in
theorem mX3_wrongedAt (l : Launch) {E : En} {c : Cy} {ly : Ly} {L : List Nat} {ad : Nat → Nat → Nat} {H : Heap} (hX : PX E c ly L ad H) (h i f k kd : Nat) (hh : h < c.R 11 1) (hi : i < c.R 11 0) (hk : k < c.R 1 i) (hf : f ≤ k) (hkd : kd < 4) : RoR l yX3_wrongedAt cX3_wrongedAt 7 (.object "Wallcode$Hand") (rmk 3 0 0 67) [.ref (ad 0 0), .ref (ad 5 h), .ref (ad 3 i), .int (nI f), .int (nI k), .int (nI kd)] E H ((waS c h i f k kd).map (ad 5)) := by
  obtain ⟨hP, hly, hLb, wf⟩ := id hX
  refine ro_of (by decide) (Nat.le_of_ble_eq_true rfl) ?_
  intro p e s m below meth co ls hx hb hr hml hown hlocks hnm hC hU hl
  have hS : va_S noA s.heap H [] := by rw [hU]; exact va_S.rf
  have hAb : ∀ q, noA q → bA E q := fun _ h => h.elim
  have hl : lv_has ls 7 [(0, .ref (ad 0 0)), (1, .ref (ad 5 h)), (2, .ref (ad 3 i)), (3, .int (nI f)), (4, .int (nI k)), (5, .int (nI kd))] := hl
  refine lv_aload_n hx hb dX3_wrongedAt_0 rfl (lv_at hl 2 rfl) ?_
  refine pi_get hx hb hC hown hP fL_X3_161 3 i (cX_3 hi) (v := .ref (ad 4 i)) rfl dX3_wrongedAt_1 ?_
  have g_1 := wf.wd hi
  refine lv_iload hx hb dX3_wrongedAt_4 (lv_at hl 4 rfl) ?_
  refine pi_rald (n := c.R 1 i) hx hb hC hP 4 i 1 rfl (cX_4 hi) (j := k) (by first | assumption | omega) (by omega) dX3_wrongedAt_6 (fun ed_6 => ?_) (fun y6 ed_6 => ?_)
  · skip
    have d_6 : c.sh i k = none := sh_none ed_6
    refine lv_astoreN (lv' := [(6, .null), (0, .ref (ad 0 0)), (1, .ref (ad 5 h)), (2, .ref (ad 3 i)), (3, .int (nI f)), (4, .int (nI k)), (5, .int (nI kd))]) hx hb dX3_wrongedAt_7 hl (by decide) rfl (fun ls hl => ?_)
    refine lv_aloadN hx hb dX3_wrongedAt_9 (lv_at hl 0 rfl) ?_
    refine lv_ifnullN (tgt := 26) hx hb dX3_wrongedAt_11 (by decide) ?_
    refine lv_null hx hb dX3_wrongedAt_26 ?_
    exact ro_aret (x := none) hx hb hr hlocks hU (by simp [waS, d_6]) dX3_wrongedAt_27
  · skip
    obtain ⟨j_6, d_6, rfl⟩ := sh_some ed_6
    have d_6 : c.sh i k = some j_6 := d_6
    have hj_6 : j_6 < c.R 11 2 := wf.sj hi (show k < c.R 1 i by first | assumption | omega) d_6
    refine lv_astore (lv' := [(6, .ref (ad 7 j_6)), (0, .ref (ad 0 0)), (1, .ref (ad 5 h)), (2, .ref (ad 3 i)), (3, .int (nI f)), (4, .int (nI k)), (5, .int (nI kd))]) hx hb dX3_wrongedAt_7 hl (by decide) rfl (fun ls hl => ?_)
    refine lv_aload hx hb dX3_wrongedAt_9 (lv_at hl 0 rfl) ?_
    refine lv_ifnull hx hb dX3_wrongedAt_11 ?_
    refine lv_aload_n hx hb dX3_wrongedAt_14 rfl (lv_at hl 3 rfl) ?_
    refine lv_aload hx hb dX3_wrongedAt_15 (lv_at hl 0 rfl) ?_
    refine lv_iload_n hx hb dX3_wrongedAt_17 rfl (lv_at hl 4 rfl) ?_
    refine lv_iload hx hb dX3_wrongedAt_18 (lv_at hl 5 rfl) ?_
    refine ro_V (As := [.ref (ad 7 j_6), .int (nI f), .int (nI k)]) (h0 := ad 3 i) (rest := []) (v := bI (anyS (shwB c i j_6) f (k - f))) hx hb hml hown hC hS hAb (mX2_showsWithin l hX i j_6 f k hi hj_6 (by first | assumption | omega | (simp only [decide_eq_false_iff_not, decide_eq_true_eq] at *; omega)) (by first | assumption | omega | (simp only [decide_eq_false_iff_not, decide_eq_true_eq] at *; omega))) kV_X3_396 ⟨rfl, rfl⟩ ⟨Nat.le_of_ble_eq_true rfl, Nat.le_of_ble_eq_true rfl⟩ (hP.recv hC (cX_3 hi) rfl) rfl hl (Nat.le_of_ble_eq_true rfl) ⟨Nat.zero_le _, Nat.zero_le _⟩ dX3_wrongedAt_20 ?_
    refine lv_bif_eq (tgt := 28) hx hb dX3_wrongedAt_23 (by decide) (fun c_23 => ?_) (fun c_23 => ?_)
    · skip
      refine lv_aload_n hx hb dX3_wrongedAt_28 rfl (lv_at hl 1 rfl) ?_
      refine lv_aload_n hx hb dX3_wrongedAt_29 rfl (lv_at hl 2 rfl) ?_
      refine lv_aload_n hx hb dX3_wrongedAt_30 rfl (lv_at hl 3 rfl) ?_
      refine lv_aload hx hb dX3_wrongedAt_31 (lv_at hl 0 rfl) ?_
      refine lv_iload hx hb dX3_wrongedAt_33 (lv_at hl 6 rfl) ?_
      refine ro_V (As := [.ref (ad 5 h), .ref (ad 3 i), .ref (ad 7 j_6), .int (nI kd)]) (h0 := ad 0 0) (rest := []) (v := bI (iswS c h i j_6 kd)) hx hb hml hown hC hS hAb (mX3_isWronged l hX h i j_6 kd hh hi hj_6 (by first | assumption | omega | (simp only [decide_eq_false_iff_not, decide_eq_true_eq] at *; omega))) kV_X3_400 ⟨rfl, rfl⟩ ⟨Nat.le_of_ble_eq_true rfl, Nat.le_of_ble_eq_true rfl⟩ (hP.recv hC cX_0 rfl) rfl hl (Nat.le_of_ble_eq_true rfl) ⟨Nat.zero_le _, Nat.zero_le _⟩ dX3_wrongedAt_35 ?_
      refine lv_bif_eq (tgt := 49) hx hb dX3_wrongedAt_38 (by decide) (fun c_38 => ?_) (fun c_38 => ?_)
      · skip
        refine lv_null hx hb dX3_wrongedAt_49 ?_
        exact ro_aret (x := none) hx hb hr hlocks hU (by simp [waS, d_6, c_23, c_38]) dX3_wrongedAt_50
      · skip
        refine lv_aload hx hb dX3_wrongedAt_41 (lv_at hl 0 rfl) ?_
        refine pi_get hx hb hC hown hP fL_X3_172 7 j_6 (cX_7 hj_6) (v := .ref (ad 5 (c.R 5 j_6))) rfl dX3_wrongedAt_43 ?_
        have g_2 := wf.lh hj_6
        refine lv_goto (tgt := 50) hx hb dX3_wrongedAt_46 (by decide) ?_
        exact ro_aret (x := some ((ad 5 (c.R 5 j_6)))) hx hb hr hlocks hU (by simp [waS, d_6, c_23, c_38]) dX3_wrongedAt_50
    · skip
      refine lv_null hx hb dX3_wrongedAt_26 ?_
      exact ro_aret (x := none) hx hb hr hlocks hU (by simp [waS, d_6, c_23]) dX3_wrongedAt_27
set_option maxHeartbeats 4000000 in
set_option maxRecDepth 100000 in
theorem mX3_countWrongs (l : Launch) {E : En} {c : Cy} {ly : Ly} {L : List Nat} {ad : Nat → Nat → Nat} {H : Heap} (hX : PX E c ly L ad H) (h i f w kd : Nat) (hh : h < c.R 11 1) (hi : i < c.R 11 0) (hw : f + w ≤ c.R 1 i) (hkd : kd < 4) : RoI l yX3_countWrongs cX3_countWrongs 8 .int (rmk 4 0 0 93) [.ref (ad 0 0), .ref (ad 5 h), .ref (ad 3 i), .int (nI f), .int (nI w), .int (nI kd)] E H (nI (cwrS c h i f w kd)) := by
  obtain ⟨hP, hly, hLb, wf⟩ := id hX
  refine ro_of (by decide) (Nat.le_of_ble_eq_true rfl) ?_
  intro p e s m below meth co ls hx hb hr hml hown hlocks hnm hC hU hl
  have hS : va_S noA s.heap H [] := by rw [hU]; exact va_S.rf
  have hAb : ∀ q, noA q → bA E q := fun _ h => h.elim
  have hl : lv_has ls 8 [(0, .ref (ad 0 0)), (1, .ref (ad 5 h)), (2, .ref (ad 3 i)), (3, .int (nI f)), (4, .int (nI w)), (5, .int (nI kd))] := hl
  have gw := wf.wd hi
  refine lv_iconstN hx hb 0 dX3_countWrongs_0 (by decide) ?_
  refine lv_istore (lv' := [(6, .int (nI 0)), (0, .ref (ad 0 0)), (1, .ref (ad 5 h)), (2, .ref (ad 3 i)), (3, .int (nI f)), (4, .int (nI w)), (5, .int (nI kd))]) hx hb dX3_countWrongs_1 hl (by decide) rfl (fun ls hl => ?_)
  refine lv_iload_n hx hb dX3_countWrongs_3 rfl (lv_at hl 4 rfl) ?_
  refine lv_istore (lv' := [(7, .int (nI f)), (6, .int (nI 0)), (0, .ref (ad 0 0)), (1, .ref (ad 5 h)), (2, .ref (ad 3 i)), (3, .int (nI f)), (4, .int (nI w)), (5, .int (nI kd))]) hx hb dX3_countWrongs_4 hl (by decide) rfl (fun ls hl => ?_)
  have lp6 : ∀ fu : Nat, ∀ (k a : Nat), f ≤ k → k ≤ f + w → a = cntN (fun q => (waS c h i f (f + q) kd).isSome) (k - f) → f + w - k < fu → ∀ ls : Array Slot, lv_has ls 8 [(0, .ref (ad 0 0)), (1, .ref (ad 5 h)), (2, .ref (ad 3 i)), (3, .int (nI f)), (4, .int (nI w)), (5, .int (nI kd)), (6, .int (nI a)), (7, .int (nI k))] → W p l e (rmk 4 0 0 93) s m ([.ref (ad 0 0), .ref (ad 5 h), .ref (ad 3 i), .int (nI f), .int (nI w), .int (nI kd)] : List Value).toArray below meth co H [] 0 0 (MQ below (QiR (nI (cwrS c h i f w kd)) H) ([.ref (ad 0 0), .ref (ad 5 h), .ref (ad 3 i), .int (nI f), .int (nI w), .int (nI kd)] : List Value).toArray s 0 0 noA) (F0 m 6 ls []) := by
    intro fu
    induction fu with
    | zero => intro k a hk hk2 ha hfu; exact absurd hfu (Nat.not_lt_zero _)
    | succ fu ih6 =>
      intro k a hk hk2 ha hfu ls hl
      refine lv_iload hx hb dX3_countWrongs_6 (lv_at hl 7 rfl) ?_
      refine lv_iload_n hx hb dX3_countWrongs_8 rfl (lv_at hl 3 rfl) ?_
      refine lv_iload hx hb dX3_countWrongs_9 (lv_at hl 4 rfl) ?_
      refine lv_iaddN hx hb dX3_countWrongs_11 ?_
      refine lv_icmpN_ge (tgt := 38) hx hb dX3_countWrongs_12 (by decide) (by omega) (by omega) (fun c_12 => ?_) (fun c_12 => ?_)
      · skip
        refine lv_iload hx hb dX3_countWrongs_38 (lv_at hl 6 rfl) ?_
        exact ro_iret (x := nI a) hx hb hr hlocks hU (by rw [ha, show k - f = w by omega]; rfl) dX3_countWrongs_40
      · skip
        refine lv_aload_n hx hb dX3_countWrongs_15 rfl (lv_at hl 0 rfl) ?_
        refine lv_aload_n hx hb dX3_countWrongs_16 rfl (lv_at hl 1 rfl) ?_
        refine lv_aload_n hx hb dX3_countWrongs_17 rfl (lv_at hl 2 rfl) ?_
        refine lv_iload_n hx hb dX3_countWrongs_18 rfl (lv_at hl 3 rfl) ?_
        refine lv_iload hx hb dX3_countWrongs_19 (lv_at hl 7 rfl) ?_
        refine lv_iload hx hb dX3_countWrongs_21 (lv_at hl 5 rfl) ?_
        refine ro_VR (As := [.ref (ad 5 h), .ref (ad 3 i), .int (nI f), .int (nI k), .int (nI kd)]) (h0 := ad 0 0) (rest := []) (v := (waS c h i f k kd).map (ad 5)) hx hb hml hown hC hS hAb (mX3_wrongedAt l hX h i f k kd hh hi (by first | assumption | omega | (simp only [decide_eq_false_iff_not, decide_eq_true_eq] at *; omega)) (by first | assumption | omega | (simp only [decide_eq_false_iff_not, decide_eq_true_eq] at *; omega)) (by first | assumption | omega | (simp only [decide_eq_false_iff_not, decide_eq_true_eq] at *; omega))) kV_X3_392 ⟨rfl, rfl⟩ ⟨Nat.le_of_ble_eq_true rfl, Nat.le_of_ble_eq_true rfl⟩ (hP.recv hC cX_0 rfl) rfl hl (Nat.le_of_ble_eq_true rfl) ⟨Nat.zero_le _, Nat.zero_le _⟩ dX3_countWrongs_23 ?_
        cases d_23 : waS c h i f k kd with
        | none =>
          refine lv_ifnullN (tgt := 32) hx hb dX3_countWrongs_26 (by decide) ?_
          refine lv_iincN (v := 1) (lv' := [(7, .int (nI (k + 1))), (0, .ref (ad 0 0)), (1, .ref (ad 5 h)), (2, .ref (ad 3 i)), (3, .int (nI f)), (4, .int (nI w)), (5, .int (nI kd)), (6, .int (nI a))]) hx hb dX3_countWrongs_32 hl (k := 7) rfl (by decide) (by decide) rfl (fun ls hl => ?_)
          refine lv_goto (tgt := 6) hx hb dX3_countWrongs_35 (by decide) ?_
          exact ih6 (k + 1) a (by first | rfl | assumption | omega | (simp [ha, c_12, d_23]; done) | (simp_all [ha, c_12, d_23]; done)) (by first | rfl | assumption | omega | (simp [ha, c_12, d_23]; done) | (simp_all [ha, c_12, d_23]; done)) (by first | exact (congrArg (· + 1) ha).trans (cntR_t (P := fun z => (waS c h i f z kd).isSome) hk (by simp [ha, c_12, d_23])).symm | exact ha.trans (cntR_f (P := fun z => (waS c h i f z kd).isSome) hk (by simp [ha, c_12, d_23])).symm) (by omega) _ (lv_sub hl [1, 2, 3, 4, 5, 6, 7, 0] rfl)
        | some j_23 =>
          have hj_23 : j_23 < c.R 11 1 := waS_lt wf (by first | assumption | omega) (by first | assumption | omega) d_23
          refine lv_ifnull hx hb dX3_countWrongs_26 ?_
          refine lv_iincN (v := 1) (lv' := [(6, .int (nI (a + 1))), (0, .ref (ad 0 0)), (1, .ref (ad 5 h)), (2, .ref (ad 3 i)), (3, .int (nI f)), (4, .int (nI w)), (5, .int (nI kd)), (7, .int (nI k))]) hx hb dX3_countWrongs_29 hl (k := 6) rfl (by decide) (by decide) rfl (fun ls hl => ?_)
          refine lv_iincN (v := 1) (lv' := [(7, .int (nI (k + 1))), (6, .int (nI (a + 1))), (0, .ref (ad 0 0)), (1, .ref (ad 5 h)), (2, .ref (ad 3 i)), (3, .int (nI f)), (4, .int (nI w)), (5, .int (nI kd))]) hx hb dX3_countWrongs_32 hl (k := 7) rfl (by decide) (by decide) rfl (fun ls hl => ?_)
          refine lv_goto (tgt := 6) hx hb dX3_countWrongs_35 (by decide) ?_
          exact ih6 (k + 1) (a + 1) (by first | rfl | assumption | omega | (simp [ha, c_12, d_23]; done) | (simp_all [ha, c_12, d_23]; done)) (by first | rfl | assumption | omega | (simp [ha, c_12, d_23]; done) | (simp_all [ha, c_12, d_23]; done)) (by first | exact (congrArg (· + 1) ha).trans (cntR_t (P := fun z => (waS c h i f z kd).isSome) hk (by simp [ha, c_12, d_23])).symm | exact ha.trans (cntR_f (P := fun z => (waS c h i f z kd).isSome) hk (by simp [ha, c_12, d_23])).symm) (by omega) _ (lv_sub hl [2, 3, 4, 5, 6, 7, 1, 0] rfl)
  exact lp6 (f + w - f + 1) f 0 (by first | rfl | assumption | omega | (simp []; done) | (simp_all []; done)) (by first | rfl | assumption | omega | (simp []; done) | (simp_all []; done)) (by rw [Nat.sub_self]; rfl) (Nat.lt_succ_self _) _ (lv_sub hl [2, 3, 4, 5, 6, 7, 1, 0] rfl)
set_option maxHeartbeats 4000000 in
set_option maxRecDepth 100000 in
theorem mX3_fameOf (l : Launch) {E : En} {c : Cy} {ly : Ly} {L : List Nat} {ad : Nat → Nat → Nat} {H : Heap} (hX : PX E c ly L ad H) (h : Nat) (hh : h < c.R 11 1) : RoI l yX3_fameOf cX3_fameOf 4 .int (rmk 3 0 0 66) [.ref (ad 0 0), .ref (ad 5 h)] E H (fmS c h) := by
  obtain ⟨hP, hly, hLb, wf⟩ := id hX
  refine ro_of (by decide) (Nat.le_of_ble_eq_true rfl) ?_
  intro p e s m below meth co ls hx hb hr hml hown hlocks hnm hC hU hl
  have hS : va_S noA s.heap H [] := by rw [hU]; exact va_S.rf
  have hAb : ∀ q, noA q → bA E q := fun _ h => h.elim
  have hl : lv_has ls 4 [(0, .ref (ad 0 0)), (1, .ref (ad 5 h))] := hl
  refine lv_iconstN hx hb 0 dX3_fameOf_0 (by decide) ?_
  refine lv_istore_n (lv' := [(2, .int (nI 0)), (0, .ref (ad 0 0)), (1, .ref (ad 5 h))]) hx hb dX3_fameOf_1 rfl hl (by decide) rfl (fun ls hl => ?_)
  refine lv_iconstN hx hb 0 dX3_fameOf_2 (by decide) ?_
  refine lv_istore_n (lv' := [(3, .int (nI 0)), (2, .int (nI 0)), (0, .ref (ad 0 0)), (1, .ref (ad 5 h))]) hx hb dX3_fameOf_3 rfl hl (by decide) rfl (fun ls hl => ?_)
  have lp4 : ∀ fu : Nat, ∀ (k : Nat) (a : Int32), k ≤ c.R 10 0 → a = smI (fun i => wfS c i h) k → c.R 10 0 - k < fu → ∀ ls : Array Slot, lv_has ls 4 [(0, .ref (ad 0 0)), (1, .ref (ad 5 h)), (2, .int a), (3, .int (nI k))] → W p l e (rmk 3 0 0 66) s m ([.ref (ad 0 0), .ref (ad 5 h)] : List Value).toArray below meth co H [] 0 0 (MQ below (QiR (fmS c h) H) ([.ref (ad 0 0), .ref (ad 5 h)] : List Value).toArray s 0 0 noA) (F0 m 4 ls []) := by
    intro fu
    induction fu with
    | zero => intro k a hk ha hfu; exact absurd hfu (Nat.not_lt_zero _)
    | succ fu ih4 =>
      intro k a hk ha hfu ls hl
      refine lv_iload_n hx hb dX3_fameOf_4 rfl (lv_at hl 3 rfl) ?_
      refine lv_aload_n hx hb dX3_fameOf_5 rfl (lv_at hl 0 rfl) ?_
      refine pi_get hx hb hC hown hP fL_X3_10 0 0 cX_0 (v := .ref (ad 1 0)) rfl dX3_fameOf_6 ?_
      refine ro_V (As := []) (h0 := ad 1 0) (rest := [.int (nI k)]) (v := nI (c.R 10 0)) hx hb hml hown hC hS hAb (mJ_size l hP 0 (cX_1 (by decide))) kV_X3_43 ⟨rfl, rfl⟩ ⟨Nat.le_of_ble_eq_true rfl, Nat.le_of_ble_eq_true rfl⟩ (hP.recv hC (cX_1 (i := 0) (by decide)) rfl) rfl hl (Nat.le_of_ble_eq_true rfl) ⟨Nat.zero_le _, Nat.zero_le _⟩ dX3_fameOf_9 ?_
      have g_1 := wf.sw
      have g_2 := wf.nw
      refine lv_icmpN_ge (tgt := 39) hx hb dX3_fameOf_12 (by decide) (by omega) (by omega) (fun c_12 => ?_) (fun c_12 => ?_)
      · skip
        refine lv_iload_n hx hb dX3_fameOf_39 rfl (lv_at hl 2 rfl) ?_
        exact ro_iret (x := a) hx hb hr hlocks hU (by first | (rw [ha, show k = c.R 10 0 by omega]; done) | (rw [ha, show k = c.R 10 0 by omega]; rfl)) dX3_fameOf_40
      · skip
        refine lv_iload_n hx hb dX3_fameOf_15 rfl (lv_at hl 2 rfl) ?_
        refine lv_aload_n hx hb dX3_fameOf_16 rfl (lv_at hl 0 rfl) ?_
        refine pi_get hx hb hC hown hP fL_X3_10 0 0 cX_0 (v := .ref (ad 1 0)) rfl dX3_fameOf_17 ?_
        refine lv_iload_n hx hb dX3_fameOf_20 rfl (lv_at hl 3 rfl) ?_
        refine ro_VR (As := [.int (nI k)]) (h0 := ad 1 0) (rest := [.int a]) (v := some (ad 3 k)) hx hb hml hown hC hS hAb (mJ_get l hP 0 (cX_1 (by decide)) (fun h9 => cX_2 (by decide) h9) (hly 0 (by decide)) k (by first | assumption | omega | (simp only [decide_eq_false_iff_not, decide_eq_true_eq] at *; omega))) kV_X3_327 ⟨rfl, rfl⟩ ⟨Nat.le_of_ble_eq_true rfl, Nat.le_of_ble_eq_true rfl⟩ (hP.recv hC (cX_1 (i := 0) (by decide)) rfl) rfl hl (Nat.le_of_ble_eq_true rfl) ⟨Nat.zero_le _, Nat.zero_le _⟩ dX3_fameOf_21 ?_
        have hg_3 : k < c.R 11 0 := by have := wf.sw; omega
        refine pi_cast (nm := "") hx hb hC hown hP 3 k (cX_3 hg_3) rfl wCl_X3_52 dX3_fameOf_24 ?_
        refine lv_aload_n hx hb dX3_fameOf_27 rfl (lv_at hl 1 rfl) ?_
        refine ro_V (As := [.ref (ad 5 h)]) (h0 := ad 3 k) (rest := [.int a]) (v := wfS c k h) hx hb hml hown hC hS hAb (mX2_fameOf l hX k h hg_3 hh) kV_X3_342 ⟨rfl, rfl⟩ ⟨Nat.le_of_ble_eq_true rfl, Nat.le_of_ble_eq_true rfl⟩ (hP.recv hC (cX_3 hg_3) rfl) rfl hl (Nat.le_of_ble_eq_true rfl) ⟨Nat.zero_le _, Nat.zero_le _⟩ dX3_fameOf_28 ?_
        refine lv_iadd hx hb dX3_fameOf_31 ?_
        refine lv_istore_n (lv' := [(2, .int (a + (wfS c k h))), (0, .ref (ad 0 0)), (1, .ref (ad 5 h)), (3, .int (nI k))]) hx hb dX3_fameOf_32 rfl hl (by decide) rfl (fun ls hl => ?_)
        refine lv_iincN (v := 1) (lv' := [(3, .int (nI (k + 1))), (2, .int (a + (wfS c k h))), (0, .ref (ad 0 0)), (1, .ref (ad 5 h))]) hx hb dX3_fameOf_33 hl (k := 3) rfl (by decide) (by decide) rfl (fun ls hl => ?_)
        refine lv_goto (tgt := 4) hx hb dX3_fameOf_36 (by decide) ?_
        exact ih4 (k + 1) (a + (wfS c k h)) (by first | rfl | assumption | omega | (simp [ha, c_12]; done) | (simp_all [ha, c_12]; done)) (by rw [ha]; rfl) (by omega) _ (lv_sub hl [2, 3, 1, 0] rfl)
  exact lp4 (c.R 10 0 - 0 + 1) 0 (nI 0) (by first | rfl | assumption | omega | (simp []; done) | (simp_all []; done)) (rfl) (Nat.lt_succ_self _) _ (lv_sub hl [2, 3, 1, 0] rfl)
set_option maxHeartbeats 4000000 in
set_option maxRecDepth 100000 in
theorem mX3_fameGain (l : Launch) {E : En} {c : Cy} {ly : Ly} {L : List Nat} {ad : Nat → Nat → Nat} {H : Heap} (hX : PX E c ly L ad H) (h i f w kd : Nat) (hh : h < c.R 11 1) (hi : i < c.R 11 0) (hw : f + w ≤ c.R 1 i) (hkd : kd < 4) : RoI l yX3_fameGain cX3_fameGain 7 .int (rmk 2 0 0 43) [.ref (ad 5 h), .ref (ad 3 i), .int (nI f), .int (nI w), .int (nI kd)] E H (fgS c h i f w kd) := by
  obtain ⟨hP, hly, hLb, wf⟩ := id hX
  refine ro_of (by decide) (Nat.le_of_ble_eq_true rfl) ?_
  intro p e s m below meth co ls hx hb hr hml hown hlocks hnm hC hU hl
  have hS : va_S noA s.heap H [] := by rw [hU]; exact va_S.rf
  have hAb : ∀ q, noA q → bA E q := fun _ h => h.elim
  have hl : lv_has ls 7 [(0, .ref (ad 5 h)), (1, .ref (ad 3 i)), (2, .int (nI f)), (3, .int (nI w)), (4, .int (nI kd))] := hl
  have gw := wf.wd hi
  refine lv_iconstN hx hb 0 dX3_fameGain_0 (by decide) ?_
  refine lv_istore (lv' := [(5, .int (nI 0)), (0, .ref (ad 5 h)), (1, .ref (ad 3 i)), (2, .int (nI f)), (3, .int (nI w)), (4, .int (nI kd))]) hx hb dX3_fameGain_1 hl (by decide) rfl (fun ls hl => ?_)
  refine lv_iload_n hx hb dX3_fameGain_3 rfl (lv_at hl 3 rfl) ?_
  refine lv_istore (lv' := [(6, .int (nI f)), (5, .int (nI 0)), (0, .ref (ad 5 h)), (1, .ref (ad 3 i)), (2, .int (nI f)), (3, .int (nI w)), (4, .int (nI kd))]) hx hb dX3_fameGain_4 hl (by decide) rfl (fun ls hl => ?_)
  have lp6 : ∀ fu : Nat, ∀ (k : Nat) (a : Int32), f ≤ k → k ≤ f + w → a = smI (fun q => c.I 2 i * wtf kd - faS c i (f + q) h) (k - f) → f + w - k < fu → ∀ ls : Array Slot, lv_has ls 7 [(0, .ref (ad 5 h)), (1, .ref (ad 3 i)), (2, .int (nI f)), (3, .int (nI w)), (4, .int (nI kd)), (5, .int a), (6, .int (nI k))] → W p l e (rmk 2 0 0 43) s m ([.ref (ad 5 h), .ref (ad 3 i), .int (nI f), .int (nI w), .int (nI kd)] : List Value).toArray below meth co H [] 0 0 (MQ below (QiR (fgS c h i f w kd) H) ([.ref (ad 5 h), .ref (ad 3 i), .int (nI f), .int (nI w), .int (nI kd)] : List Value).toArray s 0 0 noA) (F0 m 6 ls []) := by
    intro fu
    induction fu with
    | zero => intro k a hk hk2 ha hfu; exact absurd hfu (Nat.not_lt_zero _)
    | succ fu ih6 =>
      intro k a hk hk2 ha hfu ls hl
      refine lv_iload hx hb dX3_fameGain_6 (lv_at hl 6 rfl) ?_
      refine lv_iload_n hx hb dX3_fameGain_8 rfl (lv_at hl 2 rfl) ?_
      refine lv_iload_n hx hb dX3_fameGain_9 rfl (lv_at hl 3 rfl) ?_
      refine lv_iaddN hx hb dX3_fameGain_10 ?_
      refine lv_icmpN_ge (tgt := 44) hx hb dX3_fameGain_11 (by decide) (by omega) (by omega) (fun c_11 => ?_) (fun c_11 => ?_)
      · skip
        refine lv_iload hx hb dX3_fameGain_44 (lv_at hl 5 rfl) ?_
        exact ro_iret (x := a) hx hb hr hlocks hU (by rw [ha, show k - f = w by omega]; rfl) dX3_fameGain_46
      · skip
        refine lv_iload hx hb dX3_fameGain_14 (lv_at hl 5 rfl) ?_
        refine lv_aload_n hx hb dX3_fameGain_16 rfl (lv_at hl 1 rfl) ?_
        refine pi_get hx hb hC hown hP fL_X3_218 3 i (cX_3 hi) (v := .int (c.I 2 i)) rfl dX3_fameGain_17 ?_
        refine gt_get hx hb hC.2.2.1.1 hS hAb hown (hC.2.1.at (w := .fieldLink "Wallcode" 404 "Wallcode" "WEIGHTS" "[I") (List.mem_append_right _ (List.mem_of_getElem? (i := 598) (by decide +kernel))) (by decide +kernel) _) dX3_fameGain_20 ?_
        refine lv_iload hx hb dX3_fameGain_23 (lv_at hl 4 rfl) ?_
        refine gt_ld hx hb hC.2.2.1.1 hS hAb (j := kd) (by omega) dX3_fameGain_25 ?_
        refine lv_imul hx hb dX3_fameGain_26 ?_
        refine lv_aload_n hx hb dX3_fameGain_27 rfl (lv_at hl 1 rfl) ?_
        refine lv_iload hx hb dX3_fameGain_28 (lv_at hl 6 rfl) ?_
        refine lv_aload_n hx hb dX3_fameGain_30 rfl (lv_at hl 0 rfl) ?_
        refine ro_V (As := [.int (nI k), .ref (ad 5 h)]) (h0 := ad 3 i) (rest := [.int ((c.I 2 i) * (wtf kd)), .int a]) (v := faS c i k h) hx hb hml hown hC hS hAb (mX2_fameAt l hX i k h hi (by first | assumption | omega | (simp only [decide_eq_false_iff_not, decide_eq_true_eq] at *; omega)) hh) kV_X3_407 ⟨rfl, rfl⟩ ⟨Nat.le_of_ble_eq_true rfl, Nat.le_of_ble_eq_true rfl⟩ (hP.recv hC (cX_3 hi) rfl) rfl hl (Nat.le_of_ble_eq_true rfl) ⟨Nat.zero_le _, Nat.zero_le _⟩ dX3_fameGain_31 ?_
        refine lv_isub hx hb dX3_fameGain_34 ?_
        refine lv_iadd hx hb dX3_fameGain_35 ?_
        refine lv_istore (lv' := [(5, .int (a + (((c.I 2 i) * (wtf kd)) - (faS c i k h)))), (0, .ref (ad 5 h)), (1, .ref (ad 3 i)), (2, .int (nI f)), (3, .int (nI w)), (4, .int (nI kd)), (6, .int (nI k))]) hx hb dX3_fameGain_36 hl (by decide) rfl (fun ls hl => ?_)
        refine lv_iincN (v := 1) (lv' := [(6, .int (nI (k + 1))), (5, .int (a + (((c.I 2 i) * (wtf kd)) - (faS c i k h)))), (0, .ref (ad 5 h)), (1, .ref (ad 3 i)), (2, .int (nI f)), (3, .int (nI w)), (4, .int (nI kd))]) hx hb dX3_fameGain_38 hl (k := 6) rfl (by decide) (by decide) rfl (fun ls hl => ?_)
        refine lv_goto (tgt := 6) hx hb dX3_fameGain_41 (by decide) ?_
        exact ih6 (k + 1) (a + (((c.I 2 i) * (wtf kd)) - (faS c i k h))) (by first | rfl | assumption | omega | (simp [ha, c_11]; done) | (simp_all [ha, c_11]; done)) (by first | rfl | assumption | omega | (simp [ha, c_11]; done) | (simp_all [ha, c_11]; done)) (by rw [ha]; exact (smR (g := fun z => c.I 2 i * wtf kd - faS c i z h) hk).symm) (by omega) _ (lv_sub hl [2, 3, 4, 5, 6, 1, 0] rfl)
  exact lp6 (f + w - f + 1) f (nI 0) (by first | rfl | assumption | omega | (simp []; done) | (simp_all []; done)) (by first | rfl | assumption | omega | (simp []; done) | (simp_all []; done)) (by rw [Nat.sub_self]; rfl) (Nat.lt_succ_self _) _ (lv_sub hl [2, 3, 4, 5, 6, 1, 0] rfl)
set_option maxHeartbeats 4000000 in
set_option maxRecDepth 100000 in
theorem mX3_priceOf (l : Launch) {E : En} {c : Cy} {ly : Ly} {L : List Nat} {ad : Nat → Nat → Nat} {H : Heap} (hX : PX E c ly L ad H) (j : Nat) (hj : j < c.R 11 2) : RoI l yX3_priceOf cX3_priceOf 2 .int (rmk 4 0 0 89) [.ref (ad 0 0), .ref (ad 7 j)] E H (prS c j) := by
  obtain ⟨hP, hly, hLb, wf⟩ := id hX
  refine ro_of (by decide) (Nat.le_of_ble_eq_true rfl) ?_
  intro p e s m below meth co ls hx hb hr hml hown hlocks hnm hC hU hl
  have hS : va_S noA s.heap H [] := by rw [hU]; exact va_S.rf
  have hAb : ∀ q, noA q → bA E q := fun _ h => h.elim
  have hl : lv_has ls 2 [(0, .ref (ad 0 0)), (1, .ref (ad 7 j))] := hl
  refine lv_aload_n hx hb dX3_priceOf_0 rfl (lv_at hl 1 rfl) ?_
  refine ro_V (As := []) (h0 := ad 7 j) (rest := []) (v := wtf (c.R 9 j)) hx hb hml hown hC hS hAb (mX1_weight l hX j hj) kV_X3_169 ⟨rfl, rfl⟩ ⟨Nat.le_of_ble_eq_true rfl, Nat.le_of_ble_eq_true rfl⟩ (hP.recv hC (cX_7 hj) rfl) rfl hl (Nat.le_of_ble_eq_true rfl) ⟨Nat.zero_le _, Nat.zero_le _⟩ dX3_priceOf_1 ?_
  refine lv_aload_n hx hb dX3_priceOf_4 rfl (lv_at hl 1 rfl) ?_
  refine ro_V (As := []) (h0 := ad 7 j) (rest := [.int (wtf (c.R 9 j))]) (v := nI (seenS c j)) hx hb hml hown hC hS hAb (mX1_cellsSeen l hX j hj) kV_X3_281 ⟨rfl, rfl⟩ ⟨Nat.le_of_ble_eq_true rfl, Nat.le_of_ble_eq_true rfl⟩ (hP.recv hC (cX_7 hj) rfl) rfl hl (Nat.le_of_ble_eq_true rfl) ⟨Nat.zero_le _, Nat.zero_le _⟩ dX3_priceOf_5 ?_
  refine lv_imul hx hb dX3_priceOf_8 ?_
  refine lv_bipushN hx hb 10 dX3_priceOf_9 (by decide) ?_
  refine lv_aload_n hx hb dX3_priceOf_11 rfl (lv_at hl 0 rfl) ?_
  refine lv_aload_n hx hb dX3_priceOf_12 rfl (lv_at hl 1 rfl) ?_
  refine pi_get hx hb hC hown hP fL_X3_172 7 j (cX_7 hj) (v := .ref (ad 5 (c.R 5 j))) rfl dX3_priceOf_13 ?_
  have g_2 := wf.lh hj
  refine ro_V (As := [.ref (ad 5 (c.R 5 j))]) (h0 := ad 0 0) (rest := [.int (nI 10), .int ((wtf (c.R 9 j)) * (nI (seenS c j)))]) (v := fmS c (c.R 5 j)) hx hb hml hown hC hS hAb (mX3_fameOf l hX (c.R 5 j) (by first | assumption | omega | (simp only [decide_eq_false_iff_not, decide_eq_true_eq] at *; omega))) kV_X3_249 ⟨rfl, rfl⟩ ⟨Nat.le_of_ble_eq_true rfl, Nat.le_of_ble_eq_true rfl⟩ (hP.recv hC cX_0 rfl) rfl hl (Nat.le_of_ble_eq_true rfl) ⟨Nat.zero_le _, Nat.zero_le _⟩ dX3_priceOf_16 ?_
  refine lv_bipushN hx hb 10 dX3_priceOf_19 (by decide) ?_
  refine lv_idiv hx hb dX3_priceOf_21 (by decide) ?_
  refine lv_iadd hx hb dX3_priceOf_22 ?_
  refine lv_imul hx hb dX3_priceOf_23 ?_
  exact ro_iret (x := ((wtf (c.R 9 j)) * (nI (seenS c j))) * ((nI 10) + ((fmS c (c.R 5 j)) / (nI 10)))) hx hb hr hlocks hU (by first | rfl | (simp []; done) | (simp []; omega) | (simp_all []; done)) dX3_priceOf_24
set_option maxHeartbeats 4000000 in
set_option maxRecDepth 100000 in
theorem mX3_suspectOf (l : Launch) {E : En} {c : Cy} {ly : Ly} {L : List Nat} {ad : Nat → Nat → Nat} {H : Heap} (hX : PX E c ly L ad H) (j : Nat) (hj : j < c.R 11 2) : RoI l yX3_suspectOf cX3_suspectOf 7 .int (rmk 3 0 0 64) [.ref (ad 0 0), .ref (ad 7 j)] E H (suS c j) := by
  obtain ⟨hP, hly, hLb, wf⟩ := id hX
  refine ro_of (by decide) (Nat.le_of_ble_eq_true rfl) ?_
  intro p e s m below meth co ls hx hb hr hml hown hlocks hnm hC hU hl
  have hS : va_S noA s.heap H [] := by rw [hU]; exact va_S.rf
  have hAb : ∀ q, noA q → bA E q := fun _ h => h.elim
  have hl : lv_has ls 7 [(0, .ref (ad 0 0)), (1, .ref (ad 7 j))] := hl
  refine lv_iconst (v := -1) hx hb dX3_suspectOf_0 (by decide) ?_
  refine lv_istore_n (lv' := [(2, .int (-1)), (0, .ref (ad 0 0)), (1, .ref (ad 7 j))]) hx hb dX3_suspectOf_1 rfl hl (by decide) rfl (fun ls hl => ?_)
  refine lv_iconstN hx hb 0 dX3_suspectOf_2 (by decide) ?_
  refine lv_istore_n (lv' := [(3, .int (nI 0)), (2, .int (-1)), (0, .ref (ad 0 0)), (1, .ref (ad 7 j))]) hx hb dX3_suspectOf_3 rfl hl (by decide) rfl (fun ls hl => ?_)
  refine lv_iconstN hx hb 0 dX3_suspectOf_4 (by decide) ?_
  refine lv_istore (lv' := [(4, .int (nI 0)), (3, .int (nI 0)), (2, .int (-1)), (0, .ref (ad 0 0)), (1, .ref (ad 7 j))]) hx hb dX3_suspectOf_5 hl (by decide) rfl (fun ls hl => ?_)
  have lp7 : ∀ fu : Nat, ∀ (k : Nat) (b2 m2 : Int32), k ≤ c.R 10 1 → b2 = (suF c j k).1 → m2 = (suF c j k).2 → c.R 10 1 - k < fu → ∀ ls : Array Slot, lv_has ls 7 [(0, .ref (ad 0 0)), (1, .ref (ad 7 j)), (2, .int b2), (3, .int m2), (4, .int (nI k))] → W p l e (rmk 3 0 0 64) s m ([.ref (ad 0 0), .ref (ad 7 j)] : List Value).toArray below meth co H [] 0 0 (MQ below (QiR (suS c j) H) ([.ref (ad 0 0), .ref (ad 7 j)] : List Value).toArray s 0 0 noA) (F0 m 7 ls []) := by
    intro fu
    induction fu with
    | zero => intro k b2 m2 hk h1 h2 hfu; exact absurd hfu (Nat.not_lt_zero _)
    | succ fu ih7 =>
      intro k b2 m2 hk h1 h2 hfu ls hl
      refine lv_iload hx hb dX3_suspectOf_7 (lv_at hl 4 rfl) ?_
      refine lv_aload_n hx hb dX3_suspectOf_9 rfl (lv_at hl 0 rfl) ?_
      refine pi_get hx hb hC hown hP fL_X3_16 0 0 cX_0 (v := .ref (ad 1 1)) rfl dX3_suspectOf_10 ?_
      refine ro_V (As := []) (h0 := ad 1 1) (rest := [.int (nI k)]) (v := nI (c.R 10 1)) hx hb hml hown hC hS hAb (mJ_size l hP 1 (cX_1 (by decide))) kV_X3_43 ⟨rfl, rfl⟩ ⟨Nat.le_of_ble_eq_true rfl, Nat.le_of_ble_eq_true rfl⟩ (hP.recv hC (cX_1 (i := 1) (by decide)) rfl) rfl hl (Nat.le_of_ble_eq_true rfl) ⟨Nat.zero_le _, Nat.zero_le _⟩ dX3_suspectOf_13 ?_
      have g_1 := wf.sh'
      have g_2 := wf.nh
      refine lv_icmpN_ge (tgt := 93) hx hb dX3_suspectOf_16 (by decide) (by omega) (by omega) (fun c_16 => ?_) (fun c_16 => ?_)
      · skip
        refine lv_iload_n hx hb dX3_suspectOf_93 rfl (lv_at hl 2 rfl) ?_
        exact ro_iret (x := b2) hx hb hr hlocks hU (by rw [h1, show k = c.R 10 1 by omega]; rfl) dX3_suspectOf_94
      · skip
        refine lv_aload_n hx hb dX3_suspectOf_19 rfl (lv_at hl 0 rfl) ?_
        refine pi_get hx hb hC hown hP fL_X3_16 0 0 cX_0 (v := .ref (ad 1 1)) rfl dX3_suspectOf_20 ?_
        refine lv_iload hx hb dX3_suspectOf_23 (lv_at hl 4 rfl) ?_
        refine ro_VR (As := [.int (nI k)]) (h0 := ad 1 1) (rest := []) (v := some (ad 5 k)) hx hb hml hown hC hS hAb (mJ_get l hP 1 (cX_1 (by decide)) (fun h9 => cX_2 (by decide) h9) (hly 1 (by decide)) k (by first | assumption | omega | (simp only [decide_eq_false_iff_not, decide_eq_true_eq] at *; omega))) kV_X3_327 ⟨rfl, rfl⟩ ⟨Nat.le_of_ble_eq_true rfl, Nat.le_of_ble_eq_true rfl⟩ (hP.recv hC (cX_1 (i := 1) (by decide)) rfl) rfl hl (Nat.le_of_ble_eq_true rfl) ⟨Nat.zero_le _, Nat.zero_le _⟩ dX3_suspectOf_25 ?_
        have hg_3 : k < c.R 11 1 := by have := wf.sh'; omega
        refine pi_cast (nm := "") hx hb hC hown hP 5 k (cX_5 hg_3) rfl wCl_X3_65 dX3_suspectOf_28 ?_
        refine lv_astore (lv' := [(5, .ref (ad 5 k)), (0, .ref (ad 0 0)), (1, .ref (ad 7 j)), (2, .int b2), (3, .int m2), (4, .int (nI k))]) hx hb dX3_suspectOf_31 hl (by decide) rfl (fun ls hl => ?_)
        refine lv_aload hx hb dX3_suspectOf_33 (lv_at hl 0 rfl) ?_
        refine pi_get hx hb hC hown hP fL_X3_411 5 k (cX_5 hg_3) (v := .int (c.I 9 k)) rfl dX3_suspectOf_35 ?_
        refine lv_aload_n hx hb dX3_suspectOf_38 rfl (lv_at hl 2 rfl) ?_
        refine ro_V (As := []) (h0 := ad 7 j) (rest := [.int (c.I 9 k)]) (v := slS c j) hx hb hml hown hC hS hAb (mX1_slantShown l hX j hj) kV_X3_284 ⟨rfl, rfl⟩ ⟨Nat.le_of_ble_eq_true rfl, Nat.le_of_ble_eq_true rfl⟩ (hP.recv hC (cX_7 hj) rfl) rfl hl (Nat.le_of_ble_eq_true rfl) ⟨Nat.zero_le _, Nat.zero_le _⟩ dX3_suspectOf_39 ?_
        refine lv_isub hx hb dX3_suspectOf_42 ?_
        refine va_mabs hx hb (hml.trans hl.1.symm) hown (hC.2.1.hts _ _ wAbs_X3) (hC.2.1.hts _ _ wAbsS) (hC.2.1.hts _ _ wAbsI) (hC.2.1.hts _ _ wAbsC) (Nat.le_of_ble_eq_true rfl) (Nat.le_of_ble_eq_true rfl) (Nat.zero_le _) (Nat.zero_le _) (x := ((c.I 9 k) - (slS c j))) (rest := []) dX3_suspectOf_43 ?_
        refine lv_aload hx hb dX3_suspectOf_46 (lv_at hl 0 rfl) ?_
        refine pi_get hx hb hC hown hP fL_X3_414 5 k (cX_5 hg_3) (v := .int (c.I 10 k)) rfl dX3_suspectOf_48 ?_
        refine lv_aload_n hx hb dX3_suspectOf_51 rfl (lv_at hl 2 rfl) ?_
        refine ro_V (As := []) (h0 := ad 7 j) (rest := [.int (c.I 10 k), .int (absS ((c.I 9 k) - (slS c j)))]) (v := rdS c j) hx hb hml hown hC hS hAb (mX1_roundShown l hX j hj) kV_X3_287 ⟨rfl, rfl⟩ ⟨Nat.le_of_ble_eq_true rfl, Nat.le_of_ble_eq_true rfl⟩ (hP.recv hC (cX_7 hj) rfl) rfl hl (Nat.le_of_ble_eq_true rfl) ⟨Nat.zero_le _, Nat.zero_le _⟩ dX3_suspectOf_52 ?_
        refine lv_isub hx hb dX3_suspectOf_55 ?_
        refine va_mabs hx hb (hml.trans hl.1.symm) hown (hC.2.1.hts _ _ wAbs_X3) (hC.2.1.hts _ _ wAbsS) (hC.2.1.hts _ _ wAbsI) (hC.2.1.hts _ _ wAbsC) (Nat.le_of_ble_eq_true rfl) (Nat.le_of_ble_eq_true rfl) (Nat.zero_le _) (Nat.zero_le _) (x := ((c.I 10 k) - (rdS c j))) (rest := [.int (absS ((c.I 9 k) - (slS c j)))]) dX3_suspectOf_56 ?_
        refine lv_iadd hx hb dX3_suspectOf_59 ?_
        refine lv_istore (lv' := [(6, .int ((absS ((c.I 9 k) - (slS c j))) + (absS ((c.I 10 k) - (rdS c j))))), (5, .ref (ad 5 k)), (0, .ref (ad 0 0)), (1, .ref (ad 7 j)), (2, .int b2), (3, .int m2), (4, .int (nI k))]) hx hb dX3_suspectOf_60 hl (by decide) rfl (fun ls hl => ?_)
        refine lv_aload hx hb dX3_suspectOf_62 (lv_at hl 1 rfl) ?_
        refine pi_get hx hb hC hown hP fL_X3_246 5 k (cX_5 hg_3) (v := .int (bI (c.B 0 k))) rfl dX3_suspectOf_64 ?_
        refine lv_bif_eq (tgt := 87) hx hb dX3_suspectOf_67 (by decide) (fun c_67 => ?_) (fun c_67 => ?_)
        · skip
          refine lv_iincN (v := 1) (lv' := [(4, .int (nI (k + 1))), (6, .int ((absS ((c.I 9 k) - (slS c j))) + (absS ((c.I 10 k) - (rdS c j))))), (5, .ref (ad 5 k)), (0, .ref (ad 0 0)), (1, .ref (ad 7 j)), (2, .int b2), (3, .int m2)]) hx hb dX3_suspectOf_87 hl (k := 6) rfl (by decide) (by decide) rfl (fun ls hl => ?_)
          refine lv_goto (tgt := 7) hx hb dX3_suspectOf_90 (by decide) ?_
          exact ih7 (k + 1) b2 m2 (by first | rfl | assumption | omega | (simp [c_16, c_67]; done) | (simp_all [c_16, c_67]; done)) (by first | (rw [h1]; simp only [suF]; rw [if_neg (by simp [diS, ← h1, ← h2, c_16, c_67])]) | (simp only [suF]; rw [if_pos (by simp [diS, ← h1, ← h2, c_16, c_67])])) (by first | (rw [h2]; simp only [suF]; rw [if_neg (by simp [diS, ← h1, ← h2, c_16, c_67])]) | (simp only [suF]; rw [if_pos (by simp [diS, ← h1, ← h2, c_16, c_67])]; rfl)) (by omega) _ (lv_sub hl [3, 4, 5, 6, 0] rfl)
        · skip
          refine lv_iload_n hx hb dX3_suspectOf_70 rfl (lv_at hl 4 rfl) ?_
          refine lv_iconst (v := -1) hx hb dX3_suspectOf_71 (by decide) ?_
          refine lv_icmp_eq (tgt := 81) hx hb dX3_suspectOf_72 (by decide) (fun c_72 => ?_) (fun c_72 => ?_)
          · skip
            refine lv_iload hx hb dX3_suspectOf_81 (lv_at hl 6 rfl) ?_
            refine lv_istore_n (lv' := [(2, .int (nI k)), (6, .int ((absS ((c.I 9 k) - (slS c j))) + (absS ((c.I 10 k) - (rdS c j))))), (5, .ref (ad 5 k)), (0, .ref (ad 0 0)), (1, .ref (ad 7 j)), (3, .int m2), (4, .int (nI k))]) hx hb dX3_suspectOf_83 rfl hl (by decide) rfl (fun ls hl => ?_)
            refine lv_iload hx hb dX3_suspectOf_84 (lv_at hl 1 rfl) ?_
            refine lv_istore_n (lv' := [(3, .int ((absS ((c.I 9 k) - (slS c j))) + (absS ((c.I 10 k) - (rdS c j))))), (2, .int (nI k)), (6, .int ((absS ((c.I 9 k) - (slS c j))) + (absS ((c.I 10 k) - (rdS c j))))), (5, .ref (ad 5 k)), (0, .ref (ad 0 0)), (1, .ref (ad 7 j)), (4, .int (nI k))]) hx hb dX3_suspectOf_86 rfl hl (by decide) rfl (fun ls hl => ?_)
            refine lv_iincN (v := 1) (lv' := [(4, .int (nI (k + 1))), (3, .int ((absS ((c.I 9 k) - (slS c j))) + (absS ((c.I 10 k) - (rdS c j))))), (2, .int (nI k)), (6, .int ((absS ((c.I 9 k) - (slS c j))) + (absS ((c.I 10 k) - (rdS c j))))), (5, .ref (ad 5 k)), (0, .ref (ad 0 0)), (1, .ref (ad 7 j))]) hx hb dX3_suspectOf_87 hl (k := 6) rfl (by decide) (by decide) rfl (fun ls hl => ?_)
            refine lv_goto (tgt := 7) hx hb dX3_suspectOf_90 (by decide) ?_
            exact ih7 (k + 1) (nI k) ((absS ((c.I 9 k) - (slS c j))) + (absS ((c.I 10 k) - (rdS c j)))) (by first | rfl | assumption | omega | (simp [c_16, c_67, c_72]; done) | (simp_all [c_16, c_67, c_72]; done)) (by first | (rw [h1]; simp only [suF]; rw [if_neg (by simp [diS, ← h1, ← h2, c_16, c_67, c_72])]) | (simp only [suF]; rw [if_pos (by simp [diS, ← h1, ← h2, c_16, c_67, c_72])])) (by first | (rw [h2]; simp only [suF]; rw [if_neg (by simp [diS, ← h1, ← h2, c_16, c_67, c_72])]) | (simp only [suF]; rw [if_pos (by simp [diS, ← h1, ← h2, c_16, c_67, c_72])]; rfl)) (by omega) _ (lv_sub hl [5, 6, 2, 1, 0] rfl)
          · skip
            refine lv_iload hx hb dX3_suspectOf_75 (lv_at hl 0 rfl) ?_
            refine lv_iload_n hx hb dX3_suspectOf_77 rfl (lv_at hl 5 rfl) ?_
            refine lv_icmp_ge (tgt := 87) hx hb dX3_suspectOf_78 (by decide) (fun c_78 => ?_) (fun c_78 => ?_)
            · skip
              have c_78 := Int32.not_lt.mpr c_78
              refine lv_iincN (v := 1) (lv' := [(4, .int (nI (k + 1))), (6, .int ((absS ((c.I 9 k) - (slS c j))) + (absS ((c.I 10 k) - (rdS c j))))), (5, .ref (ad 5 k)), (0, .ref (ad 0 0)), (1, .ref (ad 7 j)), (2, .int b2), (3, .int m2)]) hx hb dX3_suspectOf_87 hl (k := 6) rfl (by decide) (by decide) rfl (fun ls hl => ?_)
              refine lv_goto (tgt := 7) hx hb dX3_suspectOf_90 (by decide) ?_
              exact ih7 (k + 1) b2 m2 (by first | rfl | assumption | omega | (simp [c_16, c_67, c_72, c_78]; done) | (simp_all [c_16, c_67, c_72, c_78]; done)) (by first | (rw [h1]; simp only [suF]; rw [if_neg (by simp [diS, ← h1, ← h2, c_16, c_67, c_72, c_78])]) | (simp only [suF]; rw [if_pos (by simp [diS, ← h1, ← h2, c_16, c_67, c_72, c_78])])) (by first | (rw [h2]; simp only [suF]; rw [if_neg (by simp [diS, ← h1, ← h2, c_16, c_67, c_72, c_78])]) | (simp only [suF]; rw [if_pos (by simp [diS, ← h1, ← h2, c_16, c_67, c_72, c_78])]; rfl)) (by omega) _ (lv_sub hl [3, 4, 5, 6, 0] rfl)
            · skip
              have c_78 := Int32.not_le.mp c_78
              refine lv_iload hx hb dX3_suspectOf_81 (lv_at hl 6 rfl) ?_
              refine lv_istore_n (lv' := [(2, .int (nI k)), (6, .int ((absS ((c.I 9 k) - (slS c j))) + (absS ((c.I 10 k) - (rdS c j))))), (5, .ref (ad 5 k)), (0, .ref (ad 0 0)), (1, .ref (ad 7 j)), (3, .int m2), (4, .int (nI k))]) hx hb dX3_suspectOf_83 rfl hl (by decide) rfl (fun ls hl => ?_)
              refine lv_iload hx hb dX3_suspectOf_84 (lv_at hl 1 rfl) ?_
              refine lv_istore_n (lv' := [(3, .int ((absS ((c.I 9 k) - (slS c j))) + (absS ((c.I 10 k) - (rdS c j))))), (2, .int (nI k)), (6, .int ((absS ((c.I 9 k) - (slS c j))) + (absS ((c.I 10 k) - (rdS c j))))), (5, .ref (ad 5 k)), (0, .ref (ad 0 0)), (1, .ref (ad 7 j)), (4, .int (nI k))]) hx hb dX3_suspectOf_86 rfl hl (by decide) rfl (fun ls hl => ?_)
              refine lv_iincN (v := 1) (lv' := [(4, .int (nI (k + 1))), (3, .int ((absS ((c.I 9 k) - (slS c j))) + (absS ((c.I 10 k) - (rdS c j))))), (2, .int (nI k)), (6, .int ((absS ((c.I 9 k) - (slS c j))) + (absS ((c.I 10 k) - (rdS c j))))), (5, .ref (ad 5 k)), (0, .ref (ad 0 0)), (1, .ref (ad 7 j))]) hx hb dX3_suspectOf_87 hl (k := 6) rfl (by decide) (by decide) rfl (fun ls hl => ?_)
              refine lv_goto (tgt := 7) hx hb dX3_suspectOf_90 (by decide) ?_
              exact ih7 (k + 1) (nI k) ((absS ((c.I 9 k) - (slS c j))) + (absS ((c.I 10 k) - (rdS c j)))) (by first | rfl | assumption | omega | (simp [c_16, c_67, c_72, c_78]; done) | (simp_all [c_16, c_67, c_72, c_78]; done)) (by first | (rw [h1]; simp only [suF]; rw [if_neg (by simp [diS, ← h1, ← h2, c_16, c_67, c_72, c_78])]) | (simp only [suF]; rw [if_pos (by simp [diS, ← h1, ← h2, c_16, c_67, c_72, c_78])])) (by first | (rw [h2]; simp only [suF]; rw [if_neg (by simp [diS, ← h1, ← h2, c_16, c_67, c_72, c_78])]) | (simp only [suF]; rw [if_pos (by simp [diS, ← h1, ← h2, c_16, c_67, c_72, c_78])]; rfl)) (by omega) _ (lv_sub hl [5, 6, 2, 1, 0] rfl)
  exact lp7 (c.R 10 1 - 0 + 1) 0 (-1) (nI 0) (by first | rfl | assumption | omega | (simp []; done) | (simp_all []; done)) (rfl) (rfl) (Nat.lt_succ_self _) _ (lv_sub hl [3, 4, 2, 1, 0] rfl)
set_option maxHeartbeats 4000000 in
set_option maxRecDepth 100000 in
theorem mX3_isToBuff (l : Launch) {E : En} {c : Cy} {ly : Ly} {L : List Nat} {ad : Nat → Nat → Nat} {H : Heap} (hX : PX E c ly L ad H) (i k : Nat) (hi : i < c.R 11 0) (hk : k < c.R 1 i) : RoI l yX3_isToBuff cX3_isToBuff 4 .boolean (rmk 2 0 0 43) [.ref (ad 0 0), .ref (ad 3 i), .int (nI k)] E H (bI (tbS c i k)) := by
  obtain ⟨hP, hly, hLb, wf⟩ := id hX
  refine ro_of (by decide) (Nat.le_of_ble_eq_true rfl) ?_
  intro p e s m below meth co ls hx hb hr hml hown hlocks hnm hC hU hl
  have hS : va_S noA s.heap H [] := by rw [hU]; exact va_S.rf
  have hAb : ∀ q, noA q → bA E q := fun _ h => h.elim
  have hl : lv_has ls 4 [(0, .ref (ad 0 0)), (1, .ref (ad 3 i)), (2, .int (nI k))] := hl
  refine lv_aload_n hx hb dX3_isToBuff_0 rfl (lv_at hl 1 rfl) ?_
  refine pi_get hx hb hC hown hP fL_X3_161 3 i (cX_3 hi) (v := .ref (ad 4 i)) rfl dX3_isToBuff_1 ?_
  have g_1 := wf.wd hi
  refine lv_iload_n hx hb dX3_isToBuff_4 rfl (lv_at hl 2 rfl) ?_
  refine pi_rald (n := c.R 1 i) hx hb hC hP 4 i 1 rfl (cX_4 hi) (j := k) (by first | assumption | omega) (by omega) dX3_isToBuff_5 (fun ed_5 => ?_) (fun y5 ed_5 => ?_)
  · skip
    have d_5 : c.sh i k = none := sh_none ed_5
    refine lv_astore_nN (lv' := [(3, .null), (0, .ref (ad 0 0)), (1, .ref (ad 3 i)), (2, .int (nI k))]) hx hb dX3_isToBuff_6 rfl hl (by decide) rfl (fun ls hl => ?_)
    refine lv_aload_nN hx hb dX3_isToBuff_7 rfl (lv_at hl 0 rfl) ?_
    refine lv_ifnullN (tgt := 34) hx hb dX3_isToBuff_8 (by decide) ?_
    refine lv_iconstN hx hb 0 dX3_isToBuff_34 (by decide) ?_
    exact ro_zretB (b1 := false) hx hb hr hlocks hU (by decide) (by first | rfl | (simp [tbS, d_5]; done) | (simp [tbS, d_5]; omega) | (simp_all [tbS, d_5]; done)) dX3_isToBuff_35
  · skip
    obtain ⟨j_5, d_5, rfl⟩ := sh_some ed_5
    have d_5 : c.sh i k = some j_5 := d_5
    have hj_5 : j_5 < c.R 11 2 := wf.sj hi (show k < c.R 1 i by first | assumption | omega) d_5
    refine lv_astore_n (lv' := [(3, .ref (ad 7 j_5)), (0, .ref (ad 0 0)), (1, .ref (ad 3 i)), (2, .int (nI k))]) hx hb dX3_isToBuff_6 rfl hl (by decide) rfl (fun ls hl => ?_)
    refine lv_aload_n hx hb dX3_isToBuff_7 rfl (lv_at hl 0 rfl) ?_
    refine lv_ifnull hx hb dX3_isToBuff_8 ?_
    refine lv_aload_n hx hb dX3_isToBuff_11 rfl (lv_at hl 0 rfl) ?_
    refine pi_get hx hb hC hown hP fL_X3_130 7 j_5 (cX_7 hj_5) (v := .int (bI (c.B 1 j_5))) rfl dX3_isToBuff_12 ?_
    refine lv_bif_eq (tgt := 30) hx hb dX3_isToBuff_15 (by decide) (fun c_15 => ?_) (fun c_15 => ?_)
    · skip
      refine lv_iconstN hx hb 1 dX3_isToBuff_30 (by decide) ?_
      refine lv_goto (tgt := 35) hx hb dX3_isToBuff_31 (by decide) ?_
      exact ro_zretB (b1 := true) hx hb hr hlocks hU (by decide) (by first | rfl | (simp [tbS, d_5, c_15]; done) | (simp [tbS, d_5, c_15]; omega) | (simp_all [tbS, d_5, c_15]; done)) dX3_isToBuff_35
    · skip
      refine lv_aload_n hx hb dX3_isToBuff_18 rfl (lv_at hl 1 rfl) ?_
      refine lv_aload_n hx hb dX3_isToBuff_19 rfl (lv_at hl 0 rfl) ?_
      refine pi_get hx hb hC hown hP fL_X3_172 7 j_5 (cX_7 hj_5) (v := .ref (ad 5 (c.R 5 j_5))) rfl dX3_isToBuff_20 ?_
      have g_2 := wf.lh hj_5
      refine lv_aload_n hx hb dX3_isToBuff_23 rfl (lv_at hl 2 rfl) ?_
      refine ro_V (As := [.ref (ad 5 (c.R 5 j_5)), .ref (ad 3 i)]) (h0 := ad 0 0) (rest := []) (v := bI (permS c (c.R 5 j_5) i)) hx hb hml hown hC hS hAb (mX3_isPermitted l hX (c.R 5 j_5) i (by first | assumption | omega | (simp only [decide_eq_false_iff_not, decide_eq_true_eq] at *; omega)) hi) kV_X3_126 ⟨rfl, rfl⟩ ⟨Nat.le_of_ble_eq_true rfl, Nat.le_of_ble_eq_true rfl⟩ (hP.recv hC cX_0 rfl) rfl hl (Nat.le_of_ble_eq_true rfl) ⟨Nat.zero_le _, Nat.zero_le _⟩ dX3_isToBuff_24 ?_
      refine lv_bif_ne (tgt := 34) hx hb dX3_isToBuff_27 (by decide) (fun c_27 => ?_) (fun c_27 => ?_)
      · skip
        refine lv_iconstN hx hb 0 dX3_isToBuff_34 (by decide) ?_
        exact ro_zretB (b1 := false) hx hb hr hlocks hU (by decide) (by first | rfl | (simp [tbS, d_5, c_15, c_27]; done) | (simp [tbS, d_5, c_15, c_27]; omega) | (simp_all [tbS, d_5, c_15, c_27]; done)) dX3_isToBuff_35
      · skip
        refine lv_iconstN hx hb 1 dX3_isToBuff_30 (by decide) ?_
        refine lv_goto (tgt := 35) hx hb dX3_isToBuff_31 (by decide) ?_
        exact ro_zretB (b1 := true) hx hb hr hlocks hU (by decide) (by first | rfl | (simp [tbS, d_5, c_15, c_27]; done) | (simp [tbS, d_5, c_15, c_27]; omega) | (simp_all [tbS, d_5, c_15, c_27]; done)) dX3_isToBuff_35
set_option maxHeartbeats 4000000 in
set_option maxRecDepth 100000 in
theorem mX3_cellsToBuff (l : Launch) {E : En} {c : Cy} {ly : Ly} {L : List Nat} {ad : Nat → Nat → Nat} {H : Heap} (hX : PX E c ly L ad H) (i : Nat) (hi : i < c.R 11 0) : RoI l yX3_cellsToBuff cX3_cellsToBuff 4 .int (rmk 3 0 0 66) [.ref (ad 0 0), .ref (ad 3 i)] E H (nI (ctbS c i)) := by
  obtain ⟨hP, hly, hLb, wf⟩ := id hX
  refine ro_of (by decide) (Nat.le_of_ble_eq_true rfl) ?_
  intro p e s m below meth co ls hx hb hr hml hown hlocks hnm hC hU hl
  have hS : va_S noA s.heap H [] := by rw [hU]; exact va_S.rf
  have hAb : ∀ q, noA q → bA E q := fun _ h => h.elim
  have hl : lv_has ls 4 [(0, .ref (ad 0 0)), (1, .ref (ad 3 i))] := hl
  refine lv_iconstN hx hb 0 dX3_cellsToBuff_0 (by decide) ?_
  refine lv_istore_n (lv' := [(2, .int (nI 0)), (0, .ref (ad 0 0)), (1, .ref (ad 3 i))]) hx hb dX3_cellsToBuff_1 rfl hl (by decide) rfl (fun ls hl => ?_)
  refine lv_iconstN hx hb 0 dX3_cellsToBuff_2 (by decide) ?_
  refine lv_istore_n (lv' := [(3, .int (nI 0)), (2, .int (nI 0)), (0, .ref (ad 0 0)), (1, .ref (ad 3 i))]) hx hb dX3_cellsToBuff_3 rfl hl (by decide) rfl (fun ls hl => ?_)
  have lp4 : ∀ fu : Nat, ∀ (k a : Nat), k ≤ c.R 1 i → a = cntN (tbS c i) k → c.R 1 i - k < fu → ∀ ls : Array Slot, lv_has ls 4 [(0, .ref (ad 0 0)), (1, .ref (ad 3 i)), (2, .int (nI a)), (3, .int (nI k))] → W p l e (rmk 3 0 0 66) s m ([.ref (ad 0 0), .ref (ad 3 i)] : List Value).toArray below meth co H [] 0 0 (MQ below (QiR (nI (ctbS c i)) H) ([.ref (ad 0 0), .ref (ad 3 i)] : List Value).toArray s 0 0 noA) (F0 m 4 ls []) := by
    intro fu
    induction fu with
    | zero => intro k a hk ha hfu; exact absurd hfu (Nat.not_lt_zero _)
    | succ fu ih4 =>
      intro k a hk ha hfu ls hl
      refine lv_iload_n hx hb dX3_cellsToBuff_4 rfl (lv_at hl 3 rfl) ?_
      refine lv_aload_n hx hb dX3_cellsToBuff_5 rfl (lv_at hl 1 rfl) ?_
      refine pi_get hx hb hC hown hP fL_X3_154 3 i (cX_3 hi) (v := .int (nI (c.R 1 i))) rfl dX3_cellsToBuff_6 ?_
      have g_1 := wf.wd hi
      refine lv_icmpN_ge (tgt := 30) hx hb dX3_cellsToBuff_9 (by decide) (by omega) (by omega) (fun c_9 => ?_) (fun c_9 => ?_)
      · skip
        refine lv_iload_n hx hb dX3_cellsToBuff_30 rfl (lv_at hl 2 rfl) ?_
        exact ro_iret (x := nI a) hx hb hr hlocks hU (by first | (rw [ha, show k = c.R 1 i by omega]; done) | (rw [ha, show k = c.R 1 i by omega]; rfl)) dX3_cellsToBuff_31
      · skip
        refine lv_aload_n hx hb dX3_cellsToBuff_12 rfl (lv_at hl 0 rfl) ?_
        refine lv_aload_n hx hb dX3_cellsToBuff_13 rfl (lv_at hl 1 rfl) ?_
        refine lv_iload_n hx hb dX3_cellsToBuff_14 rfl (lv_at hl 3 rfl) ?_
        refine ro_V (As := [.ref (ad 3 i), .int (nI k)]) (h0 := ad 0 0) (rest := []) (v := bI (tbS c i k)) hx hb hml hown hC hS hAb (mX3_isToBuff l hX i k hi (by first | assumption | omega | (simp only [decide_eq_false_iff_not, decide_eq_true_eq] at *; omega))) kV_X3_157 ⟨rfl, rfl⟩ ⟨Nat.le_of_ble_eq_true rfl, Nat.le_of_ble_eq_true rfl⟩ (hP.recv hC cX_0 rfl) rfl hl (Nat.le_of_ble_eq_true rfl) ⟨Nat.zero_le _, Nat.zero_le _⟩ dX3_cellsToBuff_15 ?_
        refine lv_bif_eq (tgt := 24) hx hb dX3_cellsToBuff_18 (by decide) (fun c_18 => ?_) (fun c_18 => ?_)
        · skip
          refine lv_iincN (v := 1) (lv' := [(3, .int (nI (k + 1))), (0, .ref (ad 0 0)), (1, .ref (ad 3 i)), (2, .int (nI a))]) hx hb dX3_cellsToBuff_24 hl (k := 3) rfl (by decide) (by decide) rfl (fun ls hl => ?_)
          refine lv_goto (tgt := 4) hx hb dX3_cellsToBuff_27 (by decide) ?_
          exact ih4 (k + 1) a (by first | rfl | assumption | omega | (simp [ha, c_9, c_18]; done) | (simp_all [ha, c_9, c_18]; done)) (by first | exact (congrArg (· + 1) ha).trans (cntN_t (by simp [ha, c_9, c_18])).symm | exact ha.trans (cntN_f (by simp [ha, c_9, c_18])).symm) (by omega) _ (lv_sub hl [1, 2, 3, 0] rfl)
        · skip
          refine lv_iincN (v := 1) (lv' := [(2, .int (nI (a + 1))), (0, .ref (ad 0 0)), (1, .ref (ad 3 i)), (3, .int (nI k))]) hx hb dX3_cellsToBuff_21 hl (k := 2) rfl (by decide) (by decide) rfl (fun ls hl => ?_)
          refine lv_iincN (v := 1) (lv' := [(3, .int (nI (k + 1))), (2, .int (nI (a + 1))), (0, .ref (ad 0 0)), (1, .ref (ad 3 i))]) hx hb dX3_cellsToBuff_24 hl (k := 3) rfl (by decide) (by decide) rfl (fun ls hl => ?_)
          refine lv_goto (tgt := 4) hx hb dX3_cellsToBuff_27 (by decide) ?_
          exact ih4 (k + 1) (a + 1) (by first | rfl | assumption | omega | (simp [ha, c_9, c_18]; done) | (simp_all [ha, c_9, c_18]; done)) (by first | exact (congrArg (· + 1) ha).trans (cntN_t (by simp [ha, c_9, c_18])).symm | exact ha.trans (cntN_f (by simp [ha, c_9, c_18])).symm) (by omega) _ (lv_sub hl [2, 3, 1, 0] rfl)
  exact lp4 (c.R 1 i - 0 + 1) 0 0 (by first | rfl | assumption | omega | (simp []; done) | (simp_all []; done)) (rfl) (Nat.lt_succ_self _) _ (lv_sub hl [2, 3, 1, 0] rfl)
set_option maxHeartbeats 4000000 in
set_option maxRecDepth 100000 in
theorem mX3_eyesoreOf (l : Launch) {E : En} {c : Cy} {ly : Ly} {L : List Nat} {ad : Nat → Nat → Nat} {H : Heap} (hX : PX E c ly L ad H) (i : Nat) (hi : i < c.R 11 0) : RoI l yX3_eyesoreOf cX3_eyesoreOf 2 .int (rmk 4 0 0 89) [.ref (ad 0 0), .ref (ad 3 i)] E H (eyS c i) := by
  obtain ⟨hP, hly, hLb, wf⟩ := id hX
  refine ro_of (by decide) (Nat.le_of_ble_eq_true rfl) ?_
  intro p e s m below meth co ls hx hb hr hml hown hlocks hnm hC hU hl
  have hS : va_S noA s.heap H [] := by rw [hU]; exact va_S.rf
  have hAb : ∀ q, noA q → bA E q := fun _ h => h.elim
  have hl : lv_has ls 2 [(0, .ref (ad 0 0)), (1, .ref (ad 3 i))] := hl
  refine lv_aload_n hx hb dX3_eyesoreOf_0 rfl (lv_at hl 1 rfl) ?_
  refine pi_get hx hb hC hown hP fL_X3_218 3 i (cX_3 hi) (v := .int (c.I 2 i)) rfl dX3_eyesoreOf_1 ?_
  refine lv_aload_n hx hb dX3_eyesoreOf_4 rfl (lv_at hl 0 rfl) ?_
  refine lv_aload_n hx hb dX3_eyesoreOf_5 rfl (lv_at hl 1 rfl) ?_
  refine ro_V (As := [.ref (ad 3 i)]) (h0 := ad 0 0) (rest := [.int (c.I 2 i)]) (v := nI (ctbS c i)) hx hb hml hown hC hS hAb (mX3_cellsToBuff l hX i hi) kV_X3_148 ⟨rfl, rfl⟩ ⟨Nat.le_of_ble_eq_true rfl, Nat.le_of_ble_eq_true rfl⟩ (hP.recv hC cX_0 rfl) rfl hl (Nat.le_of_ble_eq_true rfl) ⟨Nat.zero_le _, Nat.zero_le _⟩ dX3_eyesoreOf_6 ?_
  refine lv_imul hx hb dX3_eyesoreOf_9 ?_
  exact ro_iret (x := (c.I 2 i) * (nI (ctbS c i))) hx hb hr hlocks hU (by first | rfl | (simp []; done) | (simp []; omega) | (simp_all []; done)) dX3_eyesoreOf_10
set_option maxHeartbeats 4000000 in
set_option maxRecDepth 100000 in
theorem mX3_willBeCleaned (l : Launch) {E : En} {c : Cy} {ly : Ly} {L : List Nat} {ad : Nat → Nat → Nat} {H : Heap} (hX : PX E c ly L ad H) (i n : Nat) (hi : i < c.R 11 0) (hn : n ≤ 30) : RoI l yX3_willBeCleaned cX3_willBeCleaned 4 .boolean (rmk 1 0 0 21) [.ref (ad 0 0), .ref (ad 3 i), .int (nI n)] E H (bI (wbcS c i n)) := by
  obtain ⟨hP, hly, hLb, wf⟩ := id hX
  refine ro_of (by decide) (Nat.le_of_ble_eq_true rfl) ?_
  intro p e s m below meth co ls hx hb hr hml hown hlocks hnm hC hU hl
  have hS : va_S noA s.heap H [] := by rw [hU]; exact va_S.rf
  have hAb : ∀ q, noA q → bA E q := fun _ h => h.elim
  have hl : lv_has ls 4 [(0, .ref (ad 0 0)), (1, .ref (ad 3 i)), (2, .int (nI n))] := hl
  have gt := wf.nt
  refine lv_iconstN hx hb 1 dX3_willBeCleaned_0 (by decide) ?_
  refine lv_istore_n (lv' := [(3, .int (nI 1)), (0, .ref (ad 0 0)), (1, .ref (ad 3 i)), (2, .int (nI n))]) hx hb dX3_willBeCleaned_1 rfl hl (by decide) rfl (fun ls hl => ?_)
  have lp2 : ∀ fu : Nat, ∀ (k : Nat), 1 ≤ k → k ≤ n + 1 → wbcS c i n = anyS (fun a => clnS c i (c.R 0 0 + a)) k (n + 1 - k) → n + 1 - k < fu → ∀ ls : Array Slot, lv_has ls 4 [(0, .ref (ad 0 0)), (1, .ref (ad 3 i)), (2, .int (nI n)), (3, .int (nI k))] → W p l e (rmk 1 0 0 21) s m ([.ref (ad 0 0), .ref (ad 3 i), .int (nI n)] : List Value).toArray below meth co H [] 0 0 (MQ below (QiR (bI (wbcS c i n)) H) ([.ref (ad 0 0), .ref (ad 3 i), .int (nI n)] : List Value).toArray s 0 0 noA) (F0 m 2 ls []) := by
    intro fu
    induction fu with
    | zero => intro k h0 hu hk hfu; exact absurd hfu (Nat.not_lt_zero _)
    | succ fu ih2 =>
      intro k h0 hu hk hfu ls hl
      refine lv_iload_n hx hb dX3_willBeCleaned_2 rfl (lv_at hl 3 rfl) ?_
      refine lv_iload_n hx hb dX3_willBeCleaned_3 rfl (lv_at hl 2 rfl) ?_
      refine lv_icmpN_gt (tgt := 28) hx hb dX3_willBeCleaned_4 (by decide) (by omega) (by omega) (fun c_4 => ?_) (fun c_4 => ?_)
      · skip
        refine lv_iconstN hx hb 0 dX3_willBeCleaned_28 (by decide) ?_
        exact ro_zretB (b1 := false) hx hb hr hlocks hU (by decide) (by rw [hk]; first | exact (anyS_0 (by omega)).symm | exact (anyS_t (by omega) (by simp [c_4])).symm) dX3_willBeCleaned_29
      · skip
        refine lv_aload_n hx hb dX3_willBeCleaned_7 rfl (lv_at hl 1 rfl) ?_
        refine lv_aload_n hx hb dX3_willBeCleaned_8 rfl (lv_at hl 0 rfl) ?_
        refine pi_get hx hb hC hown hP fL_X3_22 0 0 cX_0 (v := .int (nI (c.R 0 0))) rfl dX3_willBeCleaned_9 ?_
        have g_1 := wf.nt
        refine lv_iload_n hx hb dX3_willBeCleaned_12 rfl (lv_at hl 3 rfl) ?_
        refine lv_iaddN hx hb dX3_willBeCleaned_13 ?_
        refine ro_V (As := [.int (nI ((c.R 0 0) + k))]) (h0 := ad 3 i) (rest := []) (v := bI (clnS c i ((c.R 0 0) + k))) hx hb hml hown hC hS hAb (mX2_isCleanedIn l hX i ((c.R 0 0) + k) hi (by first | assumption | omega | (simp only [decide_eq_false_iff_not, decide_eq_true_eq] at *; omega))) kV_X3_417 ⟨rfl, rfl⟩ ⟨Nat.le_of_ble_eq_true rfl, Nat.le_of_ble_eq_true rfl⟩ (hP.recv hC (cX_3 hi) rfl) rfl hl (Nat.le_of_ble_eq_true rfl) ⟨Nat.zero_le _, Nat.zero_le _⟩ dX3_willBeCleaned_14 ?_
        refine lv_bif_eq (tgt := 22) hx hb dX3_willBeCleaned_17 (by decide) (fun c_17 => ?_) (fun c_17 => ?_)
        · skip
          refine lv_iincN (v := 1) (lv' := [(3, .int (nI (k + 1))), (0, .ref (ad 0 0)), (1, .ref (ad 3 i)), (2, .int (nI n))]) hx hb dX3_willBeCleaned_22 hl (k := 3) rfl (by decide) (by decide) rfl (fun ls hl => ?_)
          refine lv_goto (tgt := 2) hx hb dX3_willBeCleaned_25 (by decide) ?_
          exact ih2 (k + 1) (by first | rfl | assumption | omega | (simp [c_4, c_17]; done) | (simp_all [c_4, c_17]; done)) (by first | rfl | assumption | omega | (simp [c_4, c_17]; done) | (simp_all [c_4, c_17]; done)) (hk.trans (anyS_f (by omega) (by simp [c_4, c_17]))) (by omega) _ (lv_sub hl [1, 2, 3, 0] rfl)
        · skip
          refine lv_iconstN hx hb 1 dX3_willBeCleaned_20 (by decide) ?_
          exact ro_zretB (b1 := true) hx hb hr hlocks hU (by decide) (by rw [hk]; first | exact (anyS_0 (by omega)).symm | exact (anyS_t (by omega) (by simp [c_4, c_17])).symm) dX3_willBeCleaned_21
  exact lp2 (n + 1 - 1 + 1) 1 (by first | rfl | assumption | omega | (simp []; done) | (simp_all []; done)) (by first | rfl | assumption | omega | (simp []; done) | (simp_all []; done)) (rfl) (Nat.lt_succ_self _) _ (lv_sub hl [1, 2, 3, 0] rfl)
set_option maxHeartbeats 4000000 in
set_option maxRecDepth 100000 in
theorem mX3_layersSeenOn (l : Launch) {E : En} {c : Cy} {ly : Ly} {L : List Nat} {ad : Nat → Nat → Nat} {H : Heap} (hX : PX E c ly L ad H) (i : Nat) (hi : i < c.R 11 0) : RoI l yX3_layersSeenOn cX3_layersSeenOn 5 .int (rmk 3 0 0 64) [.ref (ad 0 0), .ref (ad 3 i)] E H (nI (lsoS c i)) := by
  obtain ⟨hP, hly, hLb, wf⟩ := id hX
  refine ro_of (by decide) (Nat.le_of_ble_eq_true rfl) ?_
  intro p e s m below meth co ls hx hb hr hml hown hlocks hnm hC hU hl
  have hS : va_S noA s.heap H [] := by rw [hU]; exact va_S.rf
  have hAb : ∀ q, noA q → bA E q := fun _ h => h.elim
  have hl : lv_has ls 5 [(0, .ref (ad 0 0)), (1, .ref (ad 3 i))] := hl
  refine lv_iconstN hx hb 0 dX3_layersSeenOn_0 (by decide) ?_
  refine lv_istore_n (lv' := [(2, .int (nI 0)), (0, .ref (ad 0 0)), (1, .ref (ad 3 i))]) hx hb dX3_layersSeenOn_1 rfl hl (by decide) rfl (fun ls hl => ?_)
  refine lv_iconstN hx hb 0 dX3_layersSeenOn_2 (by decide) ?_
  refine lv_istore_n (lv' := [(3, .int (nI 0)), (2, .int (nI 0)), (0, .ref (ad 0 0)), (1, .ref (ad 3 i))]) hx hb dX3_layersSeenOn_3 rfl hl (by decide) rfl (fun ls hl => ?_)
  have lp4 : ∀ fu : Nat, ∀ (k a : Nat), k ≤ c.R 10 2 → a = cntN (lsoB c i) k → c.R 10 2 - k < fu → ∀ ls : Array Slot, lv_has ls 5 [(0, .ref (ad 0 0)), (1, .ref (ad 3 i)), (2, .int (nI a)), (3, .int (nI k))] → W p l e (rmk 3 0 0 64) s m ([.ref (ad 0 0), .ref (ad 3 i)] : List Value).toArray below meth co H [] 0 0 (MQ below (QiR (nI (lsoS c i)) H) ([.ref (ad 0 0), .ref (ad 3 i)] : List Value).toArray s 0 0 noA) (F0 m 4 ls []) := by
    intro fu
    induction fu with
    | zero => intro k a hk ha hfu; exact absurd hfu (Nat.not_lt_zero _)
    | succ fu ih4 =>
      intro k a hk ha hfu ls hl
      refine lv_iload_n hx hb dX3_layersSeenOn_4 rfl (lv_at hl 3 rfl) ?_
      refine lv_aload_n hx hb dX3_layersSeenOn_5 rfl (lv_at hl 0 rfl) ?_
      refine pi_get hx hb hC hown hP fL_X3_19 0 0 cX_0 (v := .ref (ad 1 2)) rfl dX3_layersSeenOn_6 ?_
      refine ro_V (As := []) (h0 := ad 1 2) (rest := [.int (nI k)]) (v := nI (c.R 10 2)) hx hb hml hown hC hS hAb (mJ_size l hP 2 (cX_1 (by decide))) kV_X3_43 ⟨rfl, rfl⟩ ⟨Nat.le_of_ble_eq_true rfl, Nat.le_of_ble_eq_true rfl⟩ (hP.recv hC (cX_1 (i := 2) (by decide)) rfl) rfl hl (Nat.le_of_ble_eq_true rfl) ⟨Nat.zero_le _, Nat.zero_le _⟩ dX3_layersSeenOn_9 ?_
      have g_1 := wf.sl
      have g_2 := wf.nl
      refine lv_icmpN_ge (tgt := 54) hx hb dX3_layersSeenOn_12 (by decide) (by omega) (by omega) (fun c_12 => ?_) (fun c_12 => ?_)
      · skip
        refine lv_iload_n hx hb dX3_layersSeenOn_54 rfl (lv_at hl 2 rfl) ?_
        exact ro_iret (x := nI a) hx hb hr hlocks hU (by first | (rw [ha, show k = c.R 10 2 by omega]; done) | (rw [ha, show k = c.R 10 2 by omega]; rfl)) dX3_layersSeenOn_55
      · skip
        refine lv_aload_n hx hb dX3_layersSeenOn_15 rfl (lv_at hl 0 rfl) ?_
        refine pi_get hx hb hC hown hP fL_X3_19 0 0 cX_0 (v := .ref (ad 1 2)) rfl dX3_layersSeenOn_16 ?_
        refine lv_iload_n hx hb dX3_layersSeenOn_19 rfl (lv_at hl 3 rfl) ?_
        refine ro_VR (As := [.int (nI k)]) (h0 := ad 1 2) (rest := []) (v := some (ad 7 k)) hx hb hml hown hC hS hAb (mJ_get l hP 2 (cX_1 (by decide)) (fun h9 => cX_2 (by decide) h9) (hly 2 (by decide)) k (by first | assumption | omega | (simp only [decide_eq_false_iff_not, decide_eq_true_eq] at *; omega))) kV_X3_327 ⟨rfl, rfl⟩ ⟨Nat.le_of_ble_eq_true rfl, Nat.le_of_ble_eq_true rfl⟩ (hP.recv hC (cX_1 (i := 2) (by decide)) rfl) rfl hl (Nat.le_of_ble_eq_true rfl) ⟨Nat.zero_le _, Nat.zero_le _⟩ dX3_layersSeenOn_20 ?_
        have hg_3 : k < c.R 11 2 := by have := wf.sl; omega
        refine pi_cast (nm := "") hx hb hC hown hP 7 k (cX_7 hg_3) rfl wCl_X3_118 dX3_layersSeenOn_23 ?_
        refine lv_astore (lv' := [(4, .ref (ad 7 k)), (0, .ref (ad 0 0)), (1, .ref (ad 3 i)), (2, .int (nI a)), (3, .int (nI k))]) hx hb dX3_layersSeenOn_26 hl (by decide) rfl (fun ls hl => ?_)
        refine lv_aload hx hb dX3_layersSeenOn_28 (lv_at hl 0 rfl) ?_
        refine pi_get hx hb hC hown hP fL_X3_195 7 k (cX_7 hg_3) (v := .ref (ad 3 (c.R 6 k))) rfl dX3_layersSeenOn_30 ?_
        have g_4 := wf.lw hg_3
        refine lv_aload_n hx hb dX3_layersSeenOn_33 rfl (lv_at hl 2 rfl) ?_
        refine pi_acmp_ne (tgt := 48) hx hb hP 3 (c.R 6 k) 3 i (cX_3 g_4) (cX_3 hi) dX3_layersSeenOn_34 (by decide) (fun c_34 => ?_) (fun c_34 => ?_)
        · skip
          have c_34 : ¬ (c.R 6 k) = i := fun z => c_34 ⟨rfl, z⟩
          refine lv_iincN (v := 1) (lv' := [(3, .int (nI (k + 1))), (4, .ref (ad 7 k)), (0, .ref (ad 0 0)), (1, .ref (ad 3 i)), (2, .int (nI a))]) hx hb dX3_layersSeenOn_48 hl (k := 4) rfl (by decide) (by decide) rfl (fun ls hl => ?_)
          refine lv_goto (tgt := 4) hx hb dX3_layersSeenOn_51 (by decide) ?_
          exact ih4 (k + 1) a (by first | rfl | assumption | omega | (simp [lsoB, ha, c_12, c_34]; done) | (simp_all [lsoB, ha, c_12, c_34]; done)) (by first | exact (congrArg (· + 1) ha).trans (cntN_t (by simp [lsoB, ha, c_12, c_34])).symm | exact ha.trans (cntN_f (by simp [lsoB, ha, c_12, c_34])).symm) (by omega) _ (lv_sub hl [2, 3, 4, 0] rfl)
        · skip
          have c_34 := c_34.2
          refine lv_aload hx hb dX3_layersSeenOn_37 (lv_at hl 0 rfl) ?_
          refine ro_V (As := []) (h0 := ad 7 k) (rest := []) (v := bI (decide (0 < seenS c k))) hx hb hml hown hC hS hAb (mX1_isSeen l hX k hg_3) kV_X3_186 ⟨rfl, rfl⟩ ⟨Nat.le_of_ble_eq_true rfl, Nat.le_of_ble_eq_true rfl⟩ (hP.recv hC (cX_7 hg_3) rfl) rfl hl (Nat.le_of_ble_eq_true rfl) ⟨Nat.zero_le _, Nat.zero_le _⟩ dX3_layersSeenOn_39 ?_
          refine lv_bif_eq (tgt := 48) hx hb dX3_layersSeenOn_42 (by decide) (fun c_42 => ?_) (fun c_42 => ?_)
          · skip
            refine lv_iincN (v := 1) (lv' := [(3, .int (nI (k + 1))), (4, .ref (ad 7 k)), (0, .ref (ad 0 0)), (1, .ref (ad 3 i)), (2, .int (nI a))]) hx hb dX3_layersSeenOn_48 hl (k := 4) rfl (by decide) (by decide) rfl (fun ls hl => ?_)
            refine lv_goto (tgt := 4) hx hb dX3_layersSeenOn_51 (by decide) ?_
            exact ih4 (k + 1) a (by first | rfl | assumption | omega | (simp [lsoB, ha, c_12, c_34, c_42]; done) | (simp_all [lsoB, ha, c_12, c_34, c_42]; done)) (by first | exact (congrArg (· + 1) ha).trans (cntN_t (by simp [lsoB, ha, c_12, c_34, c_42])).symm | exact ha.trans (cntN_f (by simp [lsoB, ha, c_12, c_34, c_42])).symm) (by omega) _ (lv_sub hl [2, 3, 4, 0] rfl)
          · skip
            refine lv_iincN (v := 1) (lv' := [(2, .int (nI (a + 1))), (4, .ref (ad 7 k)), (0, .ref (ad 0 0)), (1, .ref (ad 3 i)), (3, .int (nI k))]) hx hb dX3_layersSeenOn_45 hl (k := 3) rfl (by decide) (by decide) rfl (fun ls hl => ?_)
            refine lv_iincN (v := 1) (lv' := [(3, .int (nI (k + 1))), (2, .int (nI (a + 1))), (4, .ref (ad 7 k)), (0, .ref (ad 0 0)), (1, .ref (ad 3 i))]) hx hb dX3_layersSeenOn_48 hl (k := 4) rfl (by decide) (by decide) rfl (fun ls hl => ?_)
            refine lv_goto (tgt := 4) hx hb dX3_layersSeenOn_51 (by decide) ?_
            exact ih4 (k + 1) (a + 1) (by first | rfl | assumption | omega | (simp [lsoB, ha, c_12, c_34, c_42]; done) | (simp_all [lsoB, ha, c_12, c_34, c_42]; done)) (by first | exact (congrArg (· + 1) ha).trans (cntN_t (by simp [lsoB, ha, c_12, c_34, c_42])).symm | exact ha.trans (cntN_f (by simp [lsoB, ha, c_12, c_34, c_42])).symm) (by omega) _ (lv_sub hl [3, 4, 1, 0] rfl)
  exact lp4 (c.R 10 2 - 0 + 1) 0 0 (by first | rfl | assumption | omega | (simp [lsoB]; done) | (simp_all [lsoB]; done)) (rfl) (Nat.lt_succ_self _) _ (lv_sub hl [2, 3, 1, 0] rfl)
set_option maxHeartbeats 4000000 in
set_option maxRecDepth 100000 in
theorem mX3_layersOf (l : Launch) {E : En} {c : Cy} {ly : Ly} {L : List Nat} {ad : Nat → Nat → Nat} {H : Heap} (hX : PX E c ly L ad H) (h : Nat) (hh : h < c.R 11 1) : RoI l yX3_layersOf cX3_layersOf 4 .int (rmk 3 0 0 64) [.ref (ad 0 0), .ref (ad 5 h)] E H (nI (cntN (lofB c h) (c.R 10 2))) := by
  obtain ⟨hP, hly, hLb, wf⟩ := id hX
  refine ro_of (by decide) (Nat.le_of_ble_eq_true rfl) ?_
  intro p e s m below meth co ls hx hb hr hml hown hlocks hnm hC hU hl
  have hS : va_S noA s.heap H [] := by rw [hU]; exact va_S.rf
  have hAb : ∀ q, noA q → bA E q := fun _ h => h.elim
  have hl : lv_has ls 4 [(0, .ref (ad 0 0)), (1, .ref (ad 5 h))] := hl
  refine lv_iconstN hx hb 0 dX3_layersOf_0 (by decide) ?_
  refine lv_istore_n (lv' := [(2, .int (nI 0)), (0, .ref (ad 0 0)), (1, .ref (ad 5 h))]) hx hb dX3_layersOf_1 rfl hl (by decide) rfl (fun ls hl => ?_)
  refine lv_iconstN hx hb 0 dX3_layersOf_2 (by decide) ?_
  refine lv_istore_n (lv' := [(3, .int (nI 0)), (2, .int (nI 0)), (0, .ref (ad 0 0)), (1, .ref (ad 5 h))]) hx hb dX3_layersOf_3 rfl hl (by decide) rfl (fun ls hl => ?_)
  have lp4 : ∀ fu : Nat, ∀ (k a : Nat), k ≤ c.R 10 2 → a = cntN (lofB c h) k → c.R 10 2 - k < fu → ∀ ls : Array Slot, lv_has ls 4 [(0, .ref (ad 0 0)), (1, .ref (ad 5 h)), (2, .int (nI a)), (3, .int (nI k))] → W p l e (rmk 3 0 0 64) s m ([.ref (ad 0 0), .ref (ad 5 h)] : List Value).toArray below meth co H [] 0 0 (MQ below (QiR (nI (cntN (lofB c h) (c.R 10 2))) H) ([.ref (ad 0 0), .ref (ad 5 h)] : List Value).toArray s 0 0 noA) (F0 m 4 ls []) := by
    intro fu
    induction fu with
    | zero => intro k a hk ha hfu; exact absurd hfu (Nat.not_lt_zero _)
    | succ fu ih4 =>
      intro k a hk ha hfu ls hl
      refine lv_iload_n hx hb dX3_layersOf_4 rfl (lv_at hl 3 rfl) ?_
      refine lv_aload_n hx hb dX3_layersOf_5 rfl (lv_at hl 0 rfl) ?_
      refine pi_get hx hb hC hown hP fL_X3_19 0 0 cX_0 (v := .ref (ad 1 2)) rfl dX3_layersOf_6 ?_
      refine ro_V (As := []) (h0 := ad 1 2) (rest := [.int (nI k)]) (v := nI (c.R 10 2)) hx hb hml hown hC hS hAb (mJ_size l hP 2 (cX_1 (by decide))) kV_X3_43 ⟨rfl, rfl⟩ ⟨Nat.le_of_ble_eq_true rfl, Nat.le_of_ble_eq_true rfl⟩ (hP.recv hC (cX_1 (i := 2) (by decide)) rfl) rfl hl (Nat.le_of_ble_eq_true rfl) ⟨Nat.zero_le _, Nat.zero_le _⟩ dX3_layersOf_9 ?_
      have g_1 := wf.sl
      have g_2 := wf.nl
      refine lv_icmpN_ge (tgt := 42) hx hb dX3_layersOf_12 (by decide) (by omega) (by omega) (fun c_12 => ?_) (fun c_12 => ?_)
      · skip
        refine lv_iload_n hx hb dX3_layersOf_42 rfl (lv_at hl 2 rfl) ?_
        exact ro_iret (x := nI a) hx hb hr hlocks hU (by first | (rw [ha, show k = c.R 10 2 by omega]; done) | (rw [ha, show k = c.R 10 2 by omega]; rfl)) dX3_layersOf_43
      · skip
        refine lv_aload_n hx hb dX3_layersOf_15 rfl (lv_at hl 0 rfl) ?_
        refine pi_get hx hb hC hown hP fL_X3_19 0 0 cX_0 (v := .ref (ad 1 2)) rfl dX3_layersOf_16 ?_
        refine lv_iload_n hx hb dX3_layersOf_19 rfl (lv_at hl 3 rfl) ?_
        refine ro_VR (As := [.int (nI k)]) (h0 := ad 1 2) (rest := []) (v := some (ad 7 k)) hx hb hml hown hC hS hAb (mJ_get l hP 2 (cX_1 (by decide)) (fun h9 => cX_2 (by decide) h9) (hly 2 (by decide)) k (by first | assumption | omega | (simp only [decide_eq_false_iff_not, decide_eq_true_eq] at *; omega))) kV_X3_327 ⟨rfl, rfl⟩ ⟨Nat.le_of_ble_eq_true rfl, Nat.le_of_ble_eq_true rfl⟩ (hP.recv hC (cX_1 (i := 2) (by decide)) rfl) rfl hl (Nat.le_of_ble_eq_true rfl) ⟨Nat.zero_le _, Nat.zero_le _⟩ dX3_layersOf_20 ?_
        have hg_3 : k < c.R 11 2 := by have := wf.sl; omega
        refine pi_cast (nm := "") hx hb hC hown hP 7 k (cX_7 hg_3) rfl wCl_X3_118 dX3_layersOf_23 ?_
        refine pi_get hx hb hC hown hP fL_X3_172 7 k (cX_7 hg_3) (v := .ref (ad 5 (c.R 5 k))) rfl dX3_layersOf_26 ?_
        have g_4 := wf.lh hg_3
        refine lv_aload_n hx hb dX3_layersOf_29 rfl (lv_at hl 1 rfl) ?_
        refine pi_acmp_ne (tgt := 36) hx hb hP 5 (c.R 5 k) 5 h (cX_5 g_4) (cX_5 hh) dX3_layersOf_30 (by decide) (fun c_30 => ?_) (fun c_30 => ?_)
        · skip
          have c_30 : ¬ (c.R 5 k) = h := fun z => c_30 ⟨rfl, z⟩
          refine lv_iincN (v := 1) (lv' := [(3, .int (nI (k + 1))), (0, .ref (ad 0 0)), (1, .ref (ad 5 h)), (2, .int (nI a))]) hx hb dX3_layersOf_36 hl (k := 3) rfl (by decide) (by decide) rfl (fun ls hl => ?_)
          refine lv_goto (tgt := 4) hx hb dX3_layersOf_39 (by decide) ?_
          exact ih4 (k + 1) a (by first | rfl | assumption | omega | (simp [lofB, ha, c_12, c_30]; done) | (simp_all [lofB, ha, c_12, c_30]; done)) (by first | exact (congrArg (· + 1) ha).trans (cntN_t (by simp [lofB, ha, c_12, c_30])).symm | exact ha.trans (cntN_f (by simp [lofB, ha, c_12, c_30])).symm) (by omega) _ (lv_sub hl [1, 2, 3, 0] rfl)
        · skip
          have c_30 := c_30.2
          refine lv_iincN (v := 1) (lv' := [(2, .int (nI (a + 1))), (0, .ref (ad 0 0)), (1, .ref (ad 5 h)), (3, .int (nI k))]) hx hb dX3_layersOf_33 hl (k := 2) rfl (by decide) (by decide) rfl (fun ls hl => ?_)
          refine lv_iincN (v := 1) (lv' := [(3, .int (nI (k + 1))), (2, .int (nI (a + 1))), (0, .ref (ad 0 0)), (1, .ref (ad 5 h))]) hx hb dX3_layersOf_36 hl (k := 3) rfl (by decide) (by decide) rfl (fun ls hl => ?_)
          refine lv_goto (tgt := 4) hx hb dX3_layersOf_39 (by decide) ?_
          exact ih4 (k + 1) (a + 1) (by first | rfl | assumption | omega | (simp [lofB, ha, c_12, c_30]; done) | (simp_all [lofB, ha, c_12, c_30]; done)) (by first | exact (congrArg (· + 1) ha).trans (cntN_t (by simp [lofB, ha, c_12, c_30])).symm | exact ha.trans (cntN_f (by simp [lofB, ha, c_12, c_30])).symm) (by omega) _ (lv_sub hl [2, 3, 1, 0] rfl)
  exact lp4 (c.R 10 2 - 0 + 1) 0 0 (by first | rfl | assumption | omega | (simp [lofB]; done) | (simp_all [lofB]; done)) (rfl) (Nat.lt_succ_self _) _ (lv_sub hl [2, 3, 1, 0] rfl)
set_option maxHeartbeats 4000000 in
set_option maxRecDepth 100000 in
theorem mX3_layersSeenOf (l : Launch) {E : En} {c : Cy} {ly : Ly} {L : List Nat} {ad : Nat → Nat → Nat} {H : Heap} (hX : PX E c ly L ad H) (h : Nat) (hh : h < c.R 11 1) : RoI l yX3_layersSeenOf cX3_layersSeenOf 5 .int (rmk 3 0 0 64) [.ref (ad 0 0), .ref (ad 5 h)] E H (nI (cntN (lsfB c h) (c.R 10 2))) := by
  obtain ⟨hP, hly, hLb, wf⟩ := id hX
  refine ro_of (by decide) (Nat.le_of_ble_eq_true rfl) ?_
  intro p e s m below meth co ls hx hb hr hml hown hlocks hnm hC hU hl
  have hS : va_S noA s.heap H [] := by rw [hU]; exact va_S.rf
  have hAb : ∀ q, noA q → bA E q := fun _ h => h.elim
  have hl : lv_has ls 5 [(0, .ref (ad 0 0)), (1, .ref (ad 5 h))] := hl
  refine lv_iconstN hx hb 0 dX3_layersSeenOf_0 (by decide) ?_
  refine lv_istore_n (lv' := [(2, .int (nI 0)), (0, .ref (ad 0 0)), (1, .ref (ad 5 h))]) hx hb dX3_layersSeenOf_1 rfl hl (by decide) rfl (fun ls hl => ?_)
  refine lv_iconstN hx hb 0 dX3_layersSeenOf_2 (by decide) ?_
  refine lv_istore_n (lv' := [(3, .int (nI 0)), (2, .int (nI 0)), (0, .ref (ad 0 0)), (1, .ref (ad 5 h))]) hx hb dX3_layersSeenOf_3 rfl hl (by decide) rfl (fun ls hl => ?_)
  have lp4 : ∀ fu : Nat, ∀ (k a : Nat), k ≤ c.R 10 2 → a = cntN (lsfB c h) k → c.R 10 2 - k < fu → ∀ ls : Array Slot, lv_has ls 5 [(0, .ref (ad 0 0)), (1, .ref (ad 5 h)), (2, .int (nI a)), (3, .int (nI k))] → W p l e (rmk 3 0 0 64) s m ([.ref (ad 0 0), .ref (ad 5 h)] : List Value).toArray below meth co H [] 0 0 (MQ below (QiR (nI (cntN (lsfB c h) (c.R 10 2))) H) ([.ref (ad 0 0), .ref (ad 5 h)] : List Value).toArray s 0 0 noA) (F0 m 4 ls []) := by
    intro fu
    induction fu with
    | zero => intro k a hk ha hfu; exact absurd hfu (Nat.not_lt_zero _)
    | succ fu ih4 =>
      intro k a hk ha hfu ls hl
      refine lv_iload_n hx hb dX3_layersSeenOf_4 rfl (lv_at hl 3 rfl) ?_
      refine lv_aload_n hx hb dX3_layersSeenOf_5 rfl (lv_at hl 0 rfl) ?_
      refine pi_get hx hb hC hown hP fL_X3_19 0 0 cX_0 (v := .ref (ad 1 2)) rfl dX3_layersSeenOf_6 ?_
      refine ro_V (As := []) (h0 := ad 1 2) (rest := [.int (nI k)]) (v := nI (c.R 10 2)) hx hb hml hown hC hS hAb (mJ_size l hP 2 (cX_1 (by decide))) kV_X3_43 ⟨rfl, rfl⟩ ⟨Nat.le_of_ble_eq_true rfl, Nat.le_of_ble_eq_true rfl⟩ (hP.recv hC (cX_1 (i := 2) (by decide)) rfl) rfl hl (Nat.le_of_ble_eq_true rfl) ⟨Nat.zero_le _, Nat.zero_le _⟩ dX3_layersSeenOf_9 ?_
      have g_1 := wf.sl
      have g_2 := wf.nl
      refine lv_icmpN_ge (tgt := 54) hx hb dX3_layersSeenOf_12 (by decide) (by omega) (by omega) (fun c_12 => ?_) (fun c_12 => ?_)
      · skip
        refine lv_iload_n hx hb dX3_layersSeenOf_54 rfl (lv_at hl 2 rfl) ?_
        exact ro_iret (x := nI a) hx hb hr hlocks hU (by first | (rw [ha, show k = c.R 10 2 by omega]; done) | (rw [ha, show k = c.R 10 2 by omega]; rfl)) dX3_layersSeenOf_55
      · skip
        refine lv_aload_n hx hb dX3_layersSeenOf_15 rfl (lv_at hl 0 rfl) ?_
        refine pi_get hx hb hC hown hP fL_X3_19 0 0 cX_0 (v := .ref (ad 1 2)) rfl dX3_layersSeenOf_16 ?_
        refine lv_iload_n hx hb dX3_layersSeenOf_19 rfl (lv_at hl 3 rfl) ?_
        refine ro_VR (As := [.int (nI k)]) (h0 := ad 1 2) (rest := []) (v := some (ad 7 k)) hx hb hml hown hC hS hAb (mJ_get l hP 2 (cX_1 (by decide)) (fun h9 => cX_2 (by decide) h9) (hly 2 (by decide)) k (by first | assumption | omega | (simp only [decide_eq_false_iff_not, decide_eq_true_eq] at *; omega))) kV_X3_327 ⟨rfl, rfl⟩ ⟨Nat.le_of_ble_eq_true rfl, Nat.le_of_ble_eq_true rfl⟩ (hP.recv hC (cX_1 (i := 2) (by decide)) rfl) rfl hl (Nat.le_of_ble_eq_true rfl) ⟨Nat.zero_le _, Nat.zero_le _⟩ dX3_layersSeenOf_20 ?_
        have hg_3 : k < c.R 11 2 := by have := wf.sl; omega
        refine pi_cast (nm := "") hx hb hC hown hP 7 k (cX_7 hg_3) rfl wCl_X3_118 dX3_layersSeenOf_23 ?_
        refine lv_astore (lv' := [(4, .ref (ad 7 k)), (0, .ref (ad 0 0)), (1, .ref (ad 5 h)), (2, .int (nI a)), (3, .int (nI k))]) hx hb dX3_layersSeenOf_26 hl (by decide) rfl (fun ls hl => ?_)
        refine lv_aload hx hb dX3_layersSeenOf_28 (lv_at hl 0 rfl) ?_
        refine pi_get hx hb hC hown hP fL_X3_172 7 k (cX_7 hg_3) (v := .ref (ad 5 (c.R 5 k))) rfl dX3_layersSeenOf_30 ?_
        have g_4 := wf.lh hg_3
        refine lv_aload_n hx hb dX3_layersSeenOf_33 rfl (lv_at hl 2 rfl) ?_
        refine pi_acmp_ne (tgt := 48) hx hb hP 5 (c.R 5 k) 5 h (cX_5 g_4) (cX_5 hh) dX3_layersSeenOf_34 (by decide) (fun c_34 => ?_) (fun c_34 => ?_)
        · skip
          have c_34 : ¬ (c.R 5 k) = h := fun z => c_34 ⟨rfl, z⟩
          refine lv_iincN (v := 1) (lv' := [(3, .int (nI (k + 1))), (4, .ref (ad 7 k)), (0, .ref (ad 0 0)), (1, .ref (ad 5 h)), (2, .int (nI a))]) hx hb dX3_layersSeenOf_48 hl (k := 4) rfl (by decide) (by decide) rfl (fun ls hl => ?_)
          refine lv_goto (tgt := 4) hx hb dX3_layersSeenOf_51 (by decide) ?_
          exact ih4 (k + 1) a (by first | rfl | assumption | omega | (simp [lsfB, ha, c_12, c_34]; done) | (simp_all [lsfB, ha, c_12, c_34]; done)) (by first | exact (congrArg (· + 1) ha).trans (cntN_t (by simp [lsfB, ha, c_12, c_34])).symm | exact ha.trans (cntN_f (by simp [lsfB, ha, c_12, c_34])).symm) (by omega) _ (lv_sub hl [2, 3, 4, 0] rfl)
        · skip
          have c_34 := c_34.2
          refine lv_aload hx hb dX3_layersSeenOf_37 (lv_at hl 0 rfl) ?_
          refine ro_V (As := []) (h0 := ad 7 k) (rest := []) (v := bI (decide (0 < seenS c k))) hx hb hml hown hC hS hAb (mX1_isSeen l hX k hg_3) kV_X3_186 ⟨rfl, rfl⟩ ⟨Nat.le_of_ble_eq_true rfl, Nat.le_of_ble_eq_true rfl⟩ (hP.recv hC (cX_7 hg_3) rfl) rfl hl (Nat.le_of_ble_eq_true rfl) ⟨Nat.zero_le _, Nat.zero_le _⟩ dX3_layersSeenOf_39 ?_
          refine lv_bif_eq (tgt := 48) hx hb dX3_layersSeenOf_42 (by decide) (fun c_42 => ?_) (fun c_42 => ?_)
          · skip
            refine lv_iincN (v := 1) (lv' := [(3, .int (nI (k + 1))), (4, .ref (ad 7 k)), (0, .ref (ad 0 0)), (1, .ref (ad 5 h)), (2, .int (nI a))]) hx hb dX3_layersSeenOf_48 hl (k := 4) rfl (by decide) (by decide) rfl (fun ls hl => ?_)
            refine lv_goto (tgt := 4) hx hb dX3_layersSeenOf_51 (by decide) ?_
            exact ih4 (k + 1) a (by first | rfl | assumption | omega | (simp [lsfB, ha, c_12, c_34, c_42]; done) | (simp_all [lsfB, ha, c_12, c_34, c_42]; done)) (by first | exact (congrArg (· + 1) ha).trans (cntN_t (by simp [lsfB, ha, c_12, c_34, c_42])).symm | exact ha.trans (cntN_f (by simp [lsfB, ha, c_12, c_34, c_42])).symm) (by omega) _ (lv_sub hl [2, 3, 4, 0] rfl)
          · skip
            refine lv_iincN (v := 1) (lv' := [(2, .int (nI (a + 1))), (4, .ref (ad 7 k)), (0, .ref (ad 0 0)), (1, .ref (ad 5 h)), (3, .int (nI k))]) hx hb dX3_layersSeenOf_45 hl (k := 3) rfl (by decide) (by decide) rfl (fun ls hl => ?_)
            refine lv_iincN (v := 1) (lv' := [(3, .int (nI (k + 1))), (2, .int (nI (a + 1))), (4, .ref (ad 7 k)), (0, .ref (ad 0 0)), (1, .ref (ad 5 h))]) hx hb dX3_layersSeenOf_48 hl (k := 4) rfl (by decide) (by decide) rfl (fun ls hl => ?_)
            refine lv_goto (tgt := 4) hx hb dX3_layersSeenOf_51 (by decide) ?_
            exact ih4 (k + 1) (a + 1) (by first | rfl | assumption | omega | (simp [lsfB, ha, c_12, c_34, c_42]; done) | (simp_all [lsfB, ha, c_12, c_34, c_42]; done)) (by first | exact (congrArg (· + 1) ha).trans (cntN_t (by simp [lsfB, ha, c_12, c_34, c_42])).symm | exact ha.trans (cntN_f (by simp [lsfB, ha, c_12, c_34, c_42])).symm) (by omega) _ (lv_sub hl [3, 4, 1, 0] rfl)
  exact lp4 (c.R 10 2 - 0 + 1) 0 0 (by first | rfl | assumption | omega | (simp [lsfB]; done) | (simp_all [lsfB]; done)) (rfl) (Nat.lt_succ_self _) _ (lv_sub hl [2, 3, 1, 0] rfl)
set_option maxHeartbeats 4000000 in
set_option maxRecDepth 100000 in
theorem mX3_layersSeen (l : Launch) {E : En} {c : Cy} {ly : Ly} {L : List Nat} {ad : Nat → Nat → Nat} {H : Heap} (hX : PX E c ly L ad H)   : RoI l yX3_layersSeen cX3_layersSeen 3 .int (rmk 3 0 0 64) [.ref (ad 0 0)] E H (nI (cntN (lseB c) (c.R 10 2))) := by
  obtain ⟨hP, hly, hLb, wf⟩ := id hX
  refine ro_of (by decide) (Nat.le_of_ble_eq_true rfl) ?_
  intro p e s m below meth co ls hx hb hr hml hown hlocks hnm hC hU hl
  have hS : va_S noA s.heap H [] := by rw [hU]; exact va_S.rf
  have hAb : ∀ q, noA q → bA E q := fun _ h => h.elim
  have hl : lv_has ls 3 [(0, .ref (ad 0 0))] := hl
  refine lv_iconstN hx hb 0 dX3_layersSeen_0 (by decide) ?_
  refine lv_istore_n (lv' := [(1, .int (nI 0)), (0, .ref (ad 0 0))]) hx hb dX3_layersSeen_1 rfl hl (by decide) rfl (fun ls hl => ?_)
  refine lv_iconstN hx hb 0 dX3_layersSeen_2 (by decide) ?_
  refine lv_istore_n (lv' := [(2, .int (nI 0)), (1, .int (nI 0)), (0, .ref (ad 0 0))]) hx hb dX3_layersSeen_3 rfl hl (by decide) rfl (fun ls hl => ?_)
  have lp4 : ∀ fu : Nat, ∀ (k a : Nat), k ≤ c.R 10 2 → a = cntN (lseB c) k → c.R 10 2 - k < fu → ∀ ls : Array Slot, lv_has ls 3 [(0, .ref (ad 0 0)), (1, .int (nI a)), (2, .int (nI k))] → W p l e (rmk 3 0 0 64) s m ([.ref (ad 0 0)] : List Value).toArray below meth co H [] 0 0 (MQ below (QiR (nI (cntN (lseB c) (c.R 10 2))) H) ([.ref (ad 0 0)] : List Value).toArray s 0 0 noA) (F0 m 4 ls []) := by
    intro fu
    induction fu with
    | zero => intro k a hk ha hfu; exact absurd hfu (Nat.not_lt_zero _)
    | succ fu ih4 =>
      intro k a hk ha hfu ls hl
      refine lv_iload_n hx hb dX3_layersSeen_4 rfl (lv_at hl 2 rfl) ?_
      refine lv_aload_n hx hb dX3_layersSeen_5 rfl (lv_at hl 0 rfl) ?_
      refine pi_get hx hb hC hown hP fL_X3_19 0 0 cX_0 (v := .ref (ad 1 2)) rfl dX3_layersSeen_6 ?_
      refine ro_V (As := []) (h0 := ad 1 2) (rest := [.int (nI k)]) (v := nI (c.R 10 2)) hx hb hml hown hC hS hAb (mJ_size l hP 2 (cX_1 (by decide))) kV_X3_43 ⟨rfl, rfl⟩ ⟨Nat.le_of_ble_eq_true rfl, Nat.le_of_ble_eq_true rfl⟩ (hP.recv hC (cX_1 (i := 2) (by decide)) rfl) rfl hl (Nat.le_of_ble_eq_true rfl) ⟨Nat.zero_le _, Nat.zero_le _⟩ dX3_layersSeen_9 ?_
      have g_1 := wf.sl
      have g_2 := wf.nl
      refine lv_icmpN_ge (tgt := 41) hx hb dX3_layersSeen_12 (by decide) (by omega) (by omega) (fun c_12 => ?_) (fun c_12 => ?_)
      · skip
        refine lv_iload_n hx hb dX3_layersSeen_41 rfl (lv_at hl 1 rfl) ?_
        exact ro_iret (x := nI a) hx hb hr hlocks hU (by first | (rw [ha, show k = c.R 10 2 by omega]; done) | (rw [ha, show k = c.R 10 2 by omega]; rfl)) dX3_layersSeen_42
      · skip
        refine lv_aload_n hx hb dX3_layersSeen_15 rfl (lv_at hl 0 rfl) ?_
        refine pi_get hx hb hC hown hP fL_X3_19 0 0 cX_0 (v := .ref (ad 1 2)) rfl dX3_layersSeen_16 ?_
        refine lv_iload_n hx hb dX3_layersSeen_19 rfl (lv_at hl 2 rfl) ?_
        refine ro_VR (As := [.int (nI k)]) (h0 := ad 1 2) (rest := []) (v := some (ad 7 k)) hx hb hml hown hC hS hAb (mJ_get l hP 2 (cX_1 (by decide)) (fun h9 => cX_2 (by decide) h9) (hly 2 (by decide)) k (by first | assumption | omega | (simp only [decide_eq_false_iff_not, decide_eq_true_eq] at *; omega))) kV_X3_327 ⟨rfl, rfl⟩ ⟨Nat.le_of_ble_eq_true rfl, Nat.le_of_ble_eq_true rfl⟩ (hP.recv hC (cX_1 (i := 2) (by decide)) rfl) rfl hl (Nat.le_of_ble_eq_true rfl) ⟨Nat.zero_le _, Nat.zero_le _⟩ dX3_layersSeen_20 ?_
        have hg_3 : k < c.R 11 2 := by have := wf.sl; omega
        refine pi_cast (nm := "") hx hb hC hown hP 7 k (cX_7 hg_3) rfl wCl_X3_118 dX3_layersSeen_23 ?_
        refine ro_V (As := []) (h0 := ad 7 k) (rest := []) (v := bI (decide (0 < seenS c k))) hx hb hml hown hC hS hAb (mX1_isSeen l hX k hg_3) kV_X3_186 ⟨rfl, rfl⟩ ⟨Nat.le_of_ble_eq_true rfl, Nat.le_of_ble_eq_true rfl⟩ (hP.recv hC (cX_7 hg_3) rfl) rfl hl (Nat.le_of_ble_eq_true rfl) ⟨Nat.zero_le _, Nat.zero_le _⟩ dX3_layersSeen_26 ?_
        refine lv_bif_eq (tgt := 35) hx hb dX3_layersSeen_29 (by decide) (fun c_29 => ?_) (fun c_29 => ?_)
        · skip
          refine lv_iincN (v := 1) (lv' := [(2, .int (nI (k + 1))), (0, .ref (ad 0 0)), (1, .int (nI a))]) hx hb dX3_layersSeen_35 hl (k := 2) rfl (by decide) (by decide) rfl (fun ls hl => ?_)
          refine lv_goto (tgt := 4) hx hb dX3_layersSeen_38 (by decide) ?_
          exact ih4 (k + 1) a (by first | rfl | assumption | omega | (simp [lseB, ha, c_12, c_29]; done) | (simp_all [lseB, ha, c_12, c_29]; done)) (by first | exact (congrArg (· + 1) ha).trans (cntN_t (by simp [lseB, ha, c_12, c_29])).symm | exact ha.trans (cntN_f (by simp [lseB, ha, c_12, c_29])).symm) (by omega) _ (lv_sub hl [1, 2, 0] rfl)
        · skip
          refine lv_iincN (v := 1) (lv' := [(1, .int (nI (a + 1))), (0, .ref (ad 0 0)), (2, .int (nI k))]) hx hb dX3_layersSeen_32 hl (k := 1) rfl (by decide) (by decide) rfl (fun ls hl => ?_)
          refine lv_iincN (v := 1) (lv' := [(2, .int (nI (k + 1))), (1, .int (nI (a + 1))), (0, .ref (ad 0 0))]) hx hb dX3_layersSeen_35 hl (k := 2) rfl (by decide) (by decide) rfl (fun ls hl => ?_)
          refine lv_goto (tgt := 4) hx hb dX3_layersSeen_38 (by decide) ?_
          exact ih4 (k + 1) (a + 1) (by first | rfl | assumption | omega | (simp [lseB, ha, c_12, c_29]; done) | (simp_all [lseB, ha, c_12, c_29]; done)) (by first | exact (congrArg (· + 1) ha).trans (cntN_t (by simp [lseB, ha, c_12, c_29])).symm | exact ha.trans (cntN_f (by simp [lseB, ha, c_12, c_29])).symm) (by omega) _ (lv_sub hl [2, 1, 0] rfl)
  exact lp4 (c.R 10 2 - 0 + 1) 0 0 (by first | rfl | assumption | omega | (simp [lseB]; done) | (simp_all [lseB]; done)) (rfl) (Nat.lt_succ_self _) _ (lv_sub hl [2, 1, 0] rfl)
set_option maxHeartbeats 4000000 in
set_option maxRecDepth 100000 in
theorem mX3_layersWithWrongSuspect (l : Launch) {E : En} {c : Cy} {ly : Ly} {L : List Nat} {ad : Nat → Nat → Nat} {H : Heap} (hX : PX E c ly L ad H)   : RoI l yX3_layersWithWrongSuspect cX3_layersWithWrongSuspect 5 .int (rmk 4 0 0 90) [.ref (ad 0 0)] E H (nI (cntN (lwsB c) (c.R 10 2))) := by
  obtain ⟨hP, hly, hLb, wf⟩ := id hX
  refine ro_of (by decide) (Nat.le_of_ble_eq_true rfl) ?_
  intro p e s m below meth co ls hx hb hr hml hown hlocks hnm hC hU hl
  have hS : va_S noA s.heap H [] := by rw [hU]; exact va_S.rf
  have hAb : ∀ q, noA q → bA E q := fun _ h => h.elim
  have hl : lv_has ls 5 [(0, .ref (ad 0 0))] := hl
  refine lv_iconstN hx hb 0 dX3_layersWithWrongSuspect_0 (by decide) ?_
  refine lv_istore_n (lv' := [(1, .int (nI 0)), (0, .ref (ad 0 0))]) hx hb dX3_layersWithWrongSuspect_1 rfl hl (by decide) rfl (fun ls hl => ?_)
  refine lv_iconstN hx hb 0 dX3_layersWithWrongSuspect_2 (by decide) ?_
  refine lv_istore_n (lv' := [(2, .int (nI 0)), (1, .int (nI 0)), (0, .ref (ad 0 0))]) hx hb dX3_layersWithWrongSuspect_3 rfl hl (by decide) rfl (fun ls hl => ?_)
  have lp4 : ∀ fu : Nat, ∀ (k a : Nat), k ≤ c.R 10 2 → a = cntN (lwsB c) k → c.R 10 2 - k < fu → ∀ ls : Array Slot, lv_has ls 5 [(0, .ref (ad 0 0)), (1, .int (nI a)), (2, .int (nI k))] → W p l e (rmk 4 0 0 90) s m ([.ref (ad 0 0)] : List Value).toArray below meth co H [] 0 0 (MQ below (QiR (nI (cntN (lwsB c) (c.R 10 2))) H) ([.ref (ad 0 0)] : List Value).toArray s 0 0 noA) (F0 m 4 ls []) := by
    intro fu
    induction fu with
    | zero => intro k a hk ha hfu; exact absurd hfu (Nat.not_lt_zero _)
    | succ fu ih4 =>
      intro k a hk ha hfu ls hl
      refine lv_iload_n hx hb dX3_layersWithWrongSuspect_4 rfl (lv_at hl 2 rfl) ?_
      refine lv_aload_n hx hb dX3_layersWithWrongSuspect_5 rfl (lv_at hl 0 rfl) ?_
      refine pi_get hx hb hC hown hP fL_X3_19 0 0 cX_0 (v := .ref (ad 1 2)) rfl dX3_layersWithWrongSuspect_6 ?_
      refine ro_V (As := []) (h0 := ad 1 2) (rest := [.int (nI k)]) (v := nI (c.R 10 2)) hx hb hml hown hC hS hAb (mJ_size l hP 2 (cX_1 (by decide))) kV_X3_43 ⟨rfl, rfl⟩ ⟨Nat.le_of_ble_eq_true rfl, Nat.le_of_ble_eq_true rfl⟩ (hP.recv hC (cX_1 (i := 2) (by decide)) rfl) rfl hl (Nat.le_of_ble_eq_true rfl) ⟨Nat.zero_le _, Nat.zero_le _⟩ dX3_layersWithWrongSuspect_9 ?_
      have g_1 := wf.sl
      have g_2 := wf.nl
      refine lv_icmpN_ge (tgt := 68) hx hb dX3_layersWithWrongSuspect_12 (by decide) (by omega) (by omega) (fun c_12 => ?_) (fun c_12 => ?_)
      · skip
        refine lv_iload_n hx hb dX3_layersWithWrongSuspect_68 rfl (lv_at hl 1 rfl) ?_
        exact ro_iret (x := nI a) hx hb hr hlocks hU (by first | (rw [ha, show k = c.R 10 2 by omega]; done) | (rw [ha, show k = c.R 10 2 by omega]; rfl)) dX3_layersWithWrongSuspect_69
      · skip
        refine lv_aload_n hx hb dX3_layersWithWrongSuspect_15 rfl (lv_at hl 0 rfl) ?_
        refine pi_get hx hb hC hown hP fL_X3_19 0 0 cX_0 (v := .ref (ad 1 2)) rfl dX3_layersWithWrongSuspect_16 ?_
        refine lv_iload_n hx hb dX3_layersWithWrongSuspect_19 rfl (lv_at hl 2 rfl) ?_
        refine ro_VR (As := [.int (nI k)]) (h0 := ad 1 2) (rest := []) (v := some (ad 7 k)) hx hb hml hown hC hS hAb (mJ_get l hP 2 (cX_1 (by decide)) (fun h9 => cX_2 (by decide) h9) (hly 2 (by decide)) k (by first | assumption | omega | (simp only [decide_eq_false_iff_not, decide_eq_true_eq] at *; omega))) kV_X3_327 ⟨rfl, rfl⟩ ⟨Nat.le_of_ble_eq_true rfl, Nat.le_of_ble_eq_true rfl⟩ (hP.recv hC (cX_1 (i := 2) (by decide)) rfl) rfl hl (Nat.le_of_ble_eq_true rfl) ⟨Nat.zero_le _, Nat.zero_le _⟩ dX3_layersWithWrongSuspect_20 ?_
        have hg_3 : k < c.R 11 2 := by have := wf.sl; omega
        refine pi_cast (nm := "") hx hb hC hown hP 7 k (cX_7 hg_3) rfl wCl_X3_118 dX3_layersWithWrongSuspect_23 ?_
        refine lv_astore_n (lv' := [(3, .ref (ad 7 k)), (0, .ref (ad 0 0)), (1, .int (nI a)), (2, .int (nI k))]) hx hb dX3_layersWithWrongSuspect_26 rfl hl (by decide) rfl (fun ls hl => ?_)
        refine lv_aload_n hx hb dX3_layersWithWrongSuspect_27 rfl (lv_at hl 1 rfl) ?_
        refine lv_aload_n hx hb dX3_layersWithWrongSuspect_28 rfl (lv_at hl 0 rfl) ?_
        refine ro_V (As := [.ref (ad 7 k)]) (h0 := ad 0 0) (rest := []) (v := suS c k) hx hb hml hown hC hS hAb (mX3_suspectOf l hX k hg_3) kV_X3_290 ⟨rfl, rfl⟩ ⟨Nat.le_of_ble_eq_true rfl, Nat.le_of_ble_eq_true rfl⟩ (hP.recv hC cX_0 rfl) rfl hl (Nat.le_of_ble_eq_true rfl) ⟨Nat.zero_le _, Nat.zero_le _⟩ dX3_layersWithWrongSuspect_29 ?_
        refine lv_istore (lv' := [(4, .int (suS c k)), (3, .ref (ad 7 k)), (0, .ref (ad 0 0)), (1, .int (nI a)), (2, .int (nI k))]) hx hb dX3_layersWithWrongSuspect_32 hl (by decide) rfl (fun ls hl => ?_)
        refine lv_aload_n hx hb dX3_layersWithWrongSuspect_34 rfl (lv_at hl 1 rfl) ?_
        refine ro_V (As := []) (h0 := ad 7 k) (rest := []) (v := bI (decide (0 < seenS c k))) hx hb hml hown hC hS hAb (mX1_isSeen l hX k hg_3) kV_X3_186 ⟨rfl, rfl⟩ ⟨Nat.le_of_ble_eq_true rfl, Nat.le_of_ble_eq_true rfl⟩ (hP.recv hC (cX_7 hg_3) rfl) rfl hl (Nat.le_of_ble_eq_true rfl) ⟨Nat.zero_le _, Nat.zero_le _⟩ dX3_layersWithWrongSuspect_35 ?_
        refine lv_bif_eq (tgt := 62) hx hb dX3_layersWithWrongSuspect_38 (by decide) (fun c_38 => ?_) (fun c_38 => ?_)
        · skip
          refine lv_iincN (v := 1) (lv' := [(2, .int (nI (k + 1))), (4, .int (suS c k)), (3, .ref (ad 7 k)), (0, .ref (ad 0 0)), (1, .int (nI a))]) hx hb dX3_layersWithWrongSuspect_62 hl (k := 4) rfl (by decide) (by decide) rfl (fun ls hl => ?_)
          refine lv_goto (tgt := 4) hx hb dX3_layersWithWrongSuspect_65 (by decide) ?_
          exact ih4 (k + 1) a (by first | rfl | assumption | omega | (simp [lwsB, ha, c_12, c_38]; done) | (simp_all [lwsB, ha, c_12, c_38]; done)) (by first | exact (congrArg (· + 1) ha).trans (cntN_t (by simp [lwsB, ha, c_12, c_38])).symm | exact ha.trans (cntN_f (by simp [lwsB, ha, c_12, c_38])).symm) (by omega) _ (lv_sub hl [3, 4, 0] rfl)
        · skip
          refine lv_iload hx hb dX3_layersWithWrongSuspect_41 (lv_at hl 0 rfl) ?_
          refine lv_iconst (v := -1) hx hb dX3_layersWithWrongSuspect_43 (by decide) ?_
          refine lv_icmp_eq (tgt := 62) hx hb dX3_layersWithWrongSuspect_44 (by decide) (fun c_44 => ?_) (fun c_44 => ?_)
          · skip
            refine lv_iincN (v := 1) (lv' := [(2, .int (nI (k + 1))), (4, .int (suS c k)), (3, .ref (ad 7 k)), (0, .ref (ad 0 0)), (1, .int (nI a))]) hx hb dX3_layersWithWrongSuspect_62 hl (k := 4) rfl (by decide) (by decide) rfl (fun ls hl => ?_)
            refine lv_goto (tgt := 4) hx hb dX3_layersWithWrongSuspect_65 (by decide) ?_
            exact ih4 (k + 1) a (by first | rfl | assumption | omega | (simp [lwsB, ha, c_12, c_38, c_44]; done) | (simp_all [lwsB, ha, c_12, c_38, c_44]; done)) (by first | exact (congrArg (· + 1) ha).trans (cntN_t (by simp [lwsB, ha, c_12, c_38, c_44])).symm | exact ha.trans (cntN_f (by simp [lwsB, ha, c_12, c_38, c_44])).symm) (by omega) _ (lv_sub hl [3, 4, 0] rfl)
          · skip
            refine lv_iload hx hb dX3_layersWithWrongSuspect_47 (lv_at hl 0 rfl) ?_
            refine lv_aload_n hx hb dX3_layersWithWrongSuspect_49 rfl (lv_at hl 1 rfl) ?_
            refine pi_get hx hb hC hown hP fL_X3_172 7 k (cX_7 hg_3) (v := .ref (ad 5 (c.R 5 k))) rfl dX3_layersWithWrongSuspect_50 ?_
            have g_4 := wf.lh hg_3
            refine pi_get hx hb hC hown hP fL_X3_270 5 (c.R 5 k) (cX_5 g_4) (v := .int (nI (c.R 5 k))) rfl dX3_layersWithWrongSuspect_53 ?_
            have g_5 := wf.nh
            refine lv_icmp_eq (tgt := 62) hx hb dX3_layersWithWrongSuspect_56 (by decide) (fun c_56 => ?_) (fun c_56 => ?_)
            · skip
              refine lv_iincN (v := 1) (lv' := [(2, .int (nI (k + 1))), (4, .int (suS c k)), (3, .ref (ad 7 k)), (0, .ref (ad 0 0)), (1, .int (nI a))]) hx hb dX3_layersWithWrongSuspect_62 hl (k := 4) rfl (by decide) (by decide) rfl (fun ls hl => ?_)
              refine lv_goto (tgt := 4) hx hb dX3_layersWithWrongSuspect_65 (by decide) ?_
              exact ih4 (k + 1) a (by first | rfl | assumption | omega | (simp [lwsB, ha, c_12, c_38, c_44, c_56]; done) | (simp_all [lwsB, ha, c_12, c_38, c_44, c_56]; done)) (by first | exact (congrArg (· + 1) ha).trans (cntN_t (by simp [lwsB, ha, c_12, c_38, c_44, c_56])).symm | exact ha.trans (cntN_f (by simp [lwsB, ha, c_12, c_38, c_44, c_56])).symm) (by omega) _ (lv_sub hl [3, 4, 0] rfl)
            · skip
              refine lv_iincN (v := 1) (lv' := [(1, .int (nI (a + 1))), (4, .int (suS c k)), (3, .ref (ad 7 k)), (0, .ref (ad 0 0)), (2, .int (nI k))]) hx hb dX3_layersWithWrongSuspect_59 hl (k := 3) rfl (by decide) (by decide) rfl (fun ls hl => ?_)
              refine lv_iincN (v := 1) (lv' := [(2, .int (nI (k + 1))), (1, .int (nI (a + 1))), (4, .int (suS c k)), (3, .ref (ad 7 k)), (0, .ref (ad 0 0))]) hx hb dX3_layersWithWrongSuspect_62 hl (k := 4) rfl (by decide) (by decide) rfl (fun ls hl => ?_)
              refine lv_goto (tgt := 4) hx hb dX3_layersWithWrongSuspect_65 (by decide) ?_
              exact ih4 (k + 1) (a + 1) (by first | rfl | assumption | omega | (simp [lwsB, ha, c_12, c_38, c_44, c_56]; done) | (simp_all [lwsB, ha, c_12, c_38, c_44, c_56]; done)) (by first | exact (congrArg (· + 1) ha).trans (cntN_t (by simp [lwsB, ha, c_12, c_38, c_44, c_56])).symm | exact ha.trans (cntN_f (by simp [lwsB, ha, c_12, c_38, c_44, c_56])).symm) (by omega) _ (lv_sub hl [4, 1, 0] rfl)
  exact lp4 (c.R 10 2 - 0 + 1) 0 0 (by first | rfl | assumption | omega | (simp [lwsB]; done) | (simp_all [lwsB]; done)) (rfl) (Nat.lt_succ_self _) _ (lv_sub hl [2, 1, 0] rfl)
set_option maxHeartbeats 4000000 in
set_option maxRecDepth 100000 in
theorem mX3_wrongsSufferedBy (l : Launch) {E : En} {c : Cy} {ly : Ly} {L : List Nat} {ad : Nat → Nat → Nat} {H : Heap} (hX : PX E c ly L ad H) (h : Nat) (hh : h < c.R 11 1) : RoI l yX3_wrongsSufferedBy cX3_wrongsSufferedBy 4 .int (rmk 3 0 0 64) [.ref (ad 0 0), .ref (ad 5 h)] E H (smI (fun k => c.Wr k h) (c.R 10 1)) := by
  obtain ⟨hP, hly, hLb, wf⟩ := id hX
  refine ro_of (by decide) (Nat.le_of_ble_eq_true rfl) ?_
  intro p e s m below meth co ls hx hb hr hml hown hlocks hnm hC hU hl
  have hS : va_S noA s.heap H [] := by rw [hU]; exact va_S.rf
  have hAb : ∀ q, noA q → bA E q := fun _ h => h.elim
  have hl : lv_has ls 4 [(0, .ref (ad 0 0)), (1, .ref (ad 5 h))] := hl
  have gh := wf.nh
  refine lv_iconstN hx hb 0 dX3_wrongsSufferedBy_0 (by decide) ?_
  refine lv_istore_n (lv' := [(2, .int (nI 0)), (0, .ref (ad 0 0)), (1, .ref (ad 5 h))]) hx hb dX3_wrongsSufferedBy_1 rfl hl (by decide) rfl (fun ls hl => ?_)
  refine lv_iconstN hx hb 0 dX3_wrongsSufferedBy_2 (by decide) ?_
  refine lv_istore_n (lv' := [(3, .int (nI 0)), (2, .int (nI 0)), (0, .ref (ad 0 0)), (1, .ref (ad 5 h))]) hx hb dX3_wrongsSufferedBy_3 rfl hl (by decide) rfl (fun ls hl => ?_)
  have lp4 : ∀ fu : Nat, ∀ (k : Nat) (a : Int32), k ≤ c.R 10 1 → a = smI (fun k => c.Wr k h) k → c.R 10 1 - k < fu → ∀ ls : Array Slot, lv_has ls 4 [(0, .ref (ad 0 0)), (1, .ref (ad 5 h)), (2, .int a), (3, .int (nI k))] → W p l e (rmk 3 0 0 64) s m ([.ref (ad 0 0), .ref (ad 5 h)] : List Value).toArray below meth co H [] 0 0 (MQ below (QiR (smI (fun k => c.Wr k h) (c.R 10 1)) H) ([.ref (ad 0 0), .ref (ad 5 h)] : List Value).toArray s 0 0 noA) (F0 m 4 ls []) := by
    intro fu
    induction fu with
    | zero => intro k a hk ha hfu; exact absurd hfu (Nat.not_lt_zero _)
    | succ fu ih4 =>
      intro k a hk ha hfu ls hl
      refine lv_iload_n hx hb dX3_wrongsSufferedBy_4 rfl (lv_at hl 3 rfl) ?_
      refine lv_aload_n hx hb dX3_wrongsSufferedBy_5 rfl (lv_at hl 0 rfl) ?_
      refine pi_get hx hb hC hown hP fL_X3_16 0 0 cX_0 (v := .ref (ad 1 1)) rfl dX3_wrongsSufferedBy_6 ?_
      refine ro_V (As := []) (h0 := ad 1 1) (rest := [.int (nI k)]) (v := nI (c.R 10 1)) hx hb hml hown hC hS hAb (mJ_size l hP 1 (cX_1 (by decide))) kV_X3_43 ⟨rfl, rfl⟩ ⟨Nat.le_of_ble_eq_true rfl, Nat.le_of_ble_eq_true rfl⟩ (hP.recv hC (cX_1 (i := 1) (by decide)) rfl) rfl hl (Nat.le_of_ble_eq_true rfl) ⟨Nat.zero_le _, Nat.zero_le _⟩ dX3_wrongsSufferedBy_9 ?_
      have g_1 := wf.sh'
      have g_2 := wf.nh
      refine lv_icmpN_ge (tgt := 43) hx hb dX3_wrongsSufferedBy_12 (by decide) (by omega) (by omega) (fun c_12 => ?_) (fun c_12 => ?_)
      · skip
        refine lv_iload_n hx hb dX3_wrongsSufferedBy_43 rfl (lv_at hl 2 rfl) ?_
        exact ro_iret (x := a) hx hb hr hlocks hU (by first | (rw [ha, show k = c.R 10 1 by omega]; done) | (rw [ha, show k = c.R 10 1 by omega]; rfl)) dX3_wrongsSufferedBy_44
      · skip
        refine lv_iload_n hx hb dX3_wrongsSufferedBy_15 rfl (lv_at hl 2 rfl) ?_
        refine lv_aload_n hx hb dX3_wrongsSufferedBy_16 rfl (lv_at hl 0 rfl) ?_
        refine pi_get hx hb hC hown hP fL_X3_16 0 0 cX_0 (v := .ref (ad 1 1)) rfl dX3_wrongsSufferedBy_17 ?_
        refine lv_iload_n hx hb dX3_wrongsSufferedBy_20 rfl (lv_at hl 3 rfl) ?_
        refine ro_VR (As := [.int (nI k)]) (h0 := ad 1 1) (rest := [.int a]) (v := some (ad 5 k)) hx hb hml hown hC hS hAb (mJ_get l hP 1 (cX_1 (by decide)) (fun h9 => cX_2 (by decide) h9) (hly 1 (by decide)) k (by first | assumption | omega | (simp only [decide_eq_false_iff_not, decide_eq_true_eq] at *; omega))) kV_X3_327 ⟨rfl, rfl⟩ ⟨Nat.le_of_ble_eq_true rfl, Nat.le_of_ble_eq_true rfl⟩ (hP.recv hC (cX_1 (i := 1) (by decide)) rfl) rfl hl (Nat.le_of_ble_eq_true rfl) ⟨Nat.zero_le _, Nat.zero_le _⟩ dX3_wrongsSufferedBy_21 ?_
        have hg_3 : k < c.R 11 1 := by have := wf.sh'; omega
        refine pi_cast (nm := "") hx hb hC hown hP 5 k (cX_5 hg_3) rfl wCl_X3_65 dX3_wrongsSufferedBy_24 ?_
        refine pi_get hx hb hC hown hP fL_X3_295 5 k (cX_5 hg_3) (v := .ref (ad 6 k)) rfl dX3_wrongsSufferedBy_27 ?_
        refine lv_aload_n hx hb dX3_wrongsSufferedBy_30 rfl (lv_at hl 1 rfl) ?_
        refine pi_get hx hb hC hown hP fL_X3_270 5 h (cX_5 hh) (v := .int (nI h)) rfl dX3_wrongsSufferedBy_31 ?_
        have g_4 := wf.nh
        refine pi_iald hx hb hC hP 6 k (cX_6 hg_3) (j := h) (by omega) (by omega) dX3_wrongsSufferedBy_34 ?_
        refine lv_iadd hx hb dX3_wrongsSufferedBy_35 ?_
        refine lv_istore_n (lv' := [(2, .int (a + (c.Wr k h))), (0, .ref (ad 0 0)), (1, .ref (ad 5 h)), (3, .int (nI k))]) hx hb dX3_wrongsSufferedBy_36 rfl hl (by decide) rfl (fun ls hl => ?_)
        refine lv_iincN (v := 1) (lv' := [(3, .int (nI (k + 1))), (2, .int (a + (c.Wr k h))), (0, .ref (ad 0 0)), (1, .ref (ad 5 h))]) hx hb dX3_wrongsSufferedBy_37 hl (k := 3) rfl (by decide) (by decide) rfl (fun ls hl => ?_)
        refine lv_goto (tgt := 4) hx hb dX3_wrongsSufferedBy_40 (by decide) ?_
        exact ih4 (k + 1) (a + (c.Wr k h)) (by first | rfl | assumption | omega | (simp [ha, c_12]; done) | (simp_all [ha, c_12]; done)) (by rw [ha]; rfl) (by omega) _ (lv_sub hl [2, 3, 1, 0] rfl)
  exact lp4 (c.R 10 1 - 0 + 1) 0 (nI 0) (by first | rfl | assumption | omega | (simp []; done) | (simp_all []; done)) (rfl) (Nat.lt_succ_self _) _ (lv_sub hl [2, 3, 1, 0] rfl)
set_option maxHeartbeats 4000000 in
set_option maxRecDepth 100000 in
theorem mX3_allWrongs (l : Launch) {E : En} {c : Cy} {ly : Ly} {L : List Nat} {ad : Nat → Nat → Nat} {H : Heap} (hX : PX E c ly L ad H)   : RoI l yX3_allWrongs cX3_allWrongs 3 .int (rmk 3 0 0 64) [.ref (ad 0 0)] E H (smI (fun k => smI (c.Wr k) 8) (c.R 10 1)) := by
  obtain ⟨hP, hly, hLb, wf⟩ := id hX
  refine ro_of (by decide) (Nat.le_of_ble_eq_true rfl) ?_
  intro p e s m below meth co ls hx hb hr hml hown hlocks hnm hC hU hl
  have hS : va_S noA s.heap H [] := by rw [hU]; exact va_S.rf
  have hAb : ∀ q, noA q → bA E q := fun _ h => h.elim
  have hl : lv_has ls 3 [(0, .ref (ad 0 0))] := hl
  refine lv_iconstN hx hb 0 dX3_allWrongs_0 (by decide) ?_
  refine lv_istore_n (lv' := [(1, .int (nI 0)), (0, .ref (ad 0 0))]) hx hb dX3_allWrongs_1 rfl hl (by decide) rfl (fun ls hl => ?_)
  refine lv_iconstN hx hb 0 dX3_allWrongs_2 (by decide) ?_
  refine lv_istore_n (lv' := [(2, .int (nI 0)), (1, .int (nI 0)), (0, .ref (ad 0 0))]) hx hb dX3_allWrongs_3 rfl hl (by decide) rfl (fun ls hl => ?_)
  have lp4 : ∀ fu : Nat, ∀ (k : Nat) (a : Int32), k ≤ c.R 10 1 → a = smI (fun k => smI (c.Wr k) 8) k → c.R 10 1 - k < fu → ∀ ls : Array Slot, lv_has ls 3 [(0, .ref (ad 0 0)), (1, .int a), (2, .int (nI k))] → W p l e (rmk 3 0 0 64) s m ([.ref (ad 0 0)] : List Value).toArray below meth co H [] 0 0 (MQ below (QiR (smI (fun k => smI (c.Wr k) 8) (c.R 10 1)) H) ([.ref (ad 0 0)] : List Value).toArray s 0 0 noA) (F0 m 4 ls []) := by
    intro fu
    induction fu with
    | zero => intro k a hk ha hfu; exact absurd hfu (Nat.not_lt_zero _)
    | succ fu ih4 =>
      intro k a hk ha hfu ls hl
      refine lv_iload_n hx hb dX3_allWrongs_4 rfl (lv_at hl 2 rfl) ?_
      refine lv_aload_n hx hb dX3_allWrongs_5 rfl (lv_at hl 0 rfl) ?_
      refine pi_get hx hb hC hown hP fL_X3_16 0 0 cX_0 (v := .ref (ad 1 1)) rfl dX3_allWrongs_6 ?_
      refine ro_V (As := []) (h0 := ad 1 1) (rest := [.int (nI k)]) (v := nI (c.R 10 1)) hx hb hml hown hC hS hAb (mJ_size l hP 1 (cX_1 (by decide))) kV_X3_43 ⟨rfl, rfl⟩ ⟨Nat.le_of_ble_eq_true rfl, Nat.le_of_ble_eq_true rfl⟩ (hP.recv hC (cX_1 (i := 1) (by decide)) rfl) rfl hl (Nat.le_of_ble_eq_true rfl) ⟨Nat.zero_le _, Nat.zero_le _⟩ dX3_allWrongs_9 ?_
      have g_1 := wf.sh'
      have g_2 := wf.nh
      refine lv_icmpN_ge (tgt := 38) hx hb dX3_allWrongs_12 (by decide) (by omega) (by omega) (fun c_12 => ?_) (fun c_12 => ?_)
      · skip
        refine lv_iload_n hx hb dX3_allWrongs_38 rfl (lv_at hl 1 rfl) ?_
        exact ro_iret (x := a) hx hb hr hlocks hU (by first | (rw [ha, show k = c.R 10 1 by omega]; done) | (rw [ha, show k = c.R 10 1 by omega]; rfl)) dX3_allWrongs_39
      · skip
        refine lv_iload_n hx hb dX3_allWrongs_15 rfl (lv_at hl 1 rfl) ?_
        refine lv_aload_n hx hb dX3_allWrongs_16 rfl (lv_at hl 0 rfl) ?_
        refine pi_get hx hb hC hown hP fL_X3_16 0 0 cX_0 (v := .ref (ad 1 1)) rfl dX3_allWrongs_17 ?_
        refine lv_iload_n hx hb dX3_allWrongs_20 rfl (lv_at hl 2 rfl) ?_
        refine ro_VR (As := [.int (nI k)]) (h0 := ad 1 1) (rest := [.int a]) (v := some (ad 5 k)) hx hb hml hown hC hS hAb (mJ_get l hP 1 (cX_1 (by decide)) (fun h9 => cX_2 (by decide) h9) (hly 1 (by decide)) k (by first | assumption | omega | (simp only [decide_eq_false_iff_not, decide_eq_true_eq] at *; omega))) kV_X3_327 ⟨rfl, rfl⟩ ⟨Nat.le_of_ble_eq_true rfl, Nat.le_of_ble_eq_true rfl⟩ (hP.recv hC (cX_1 (i := 1) (by decide)) rfl) rfl hl (Nat.le_of_ble_eq_true rfl) ⟨Nat.zero_le _, Nat.zero_le _⟩ dX3_allWrongs_21 ?_
        have hg_3 : k < c.R 11 1 := by have := wf.sh'; omega
        refine pi_cast (nm := "") hx hb hC hown hP 5 k (cX_5 hg_3) rfl wCl_X3_65 dX3_allWrongs_24 ?_
        refine ro_V (As := []) (h0 := ad 5 k) (rest := [.int a]) (v := smI (c.Wr k) 8) hx hb hml hown hC hS hAb (mX0_wrongsDone l hX k hg_3) kV_X3_259 ⟨rfl, rfl⟩ ⟨Nat.le_of_ble_eq_true rfl, Nat.le_of_ble_eq_true rfl⟩ (hP.recv hC (cX_5 hg_3) rfl) rfl hl (Nat.le_of_ble_eq_true rfl) ⟨Nat.zero_le _, Nat.zero_le _⟩ dX3_allWrongs_27 ?_
        refine lv_iadd hx hb dX3_allWrongs_30 ?_
        refine lv_istore_n (lv' := [(1, .int (a + (smI (c.Wr k) 8))), (0, .ref (ad 0 0)), (2, .int (nI k))]) hx hb dX3_allWrongs_31 rfl hl (by decide) rfl (fun ls hl => ?_)
        refine lv_iincN (v := 1) (lv' := [(2, .int (nI (k + 1))), (1, .int (a + (smI (c.Wr k) 8))), (0, .ref (ad 0 0))]) hx hb dX3_allWrongs_32 hl (k := 2) rfl (by decide) (by decide) rfl (fun ls hl => ?_)
        refine lv_goto (tgt := 4) hx hb dX3_allWrongs_35 (by decide) ?_
        exact ih4 (k + 1) (a + (smI (c.Wr k) 8)) (by first | rfl | assumption | omega | (simp [ha, c_12]; done) | (simp_all [ha, c_12]; done)) (by rw [ha]; rfl) (by omega) _ (lv_sub hl [2, 1, 0] rfl)
  exact lp4 (c.R 10 1 - 0 + 1) 0 (nI 0) (by first | rfl | assumption | omega | (simp []; done) | (simp_all []; done)) (rfl) (Nat.lt_succ_self _) _ (lv_sub hl [2, 1, 0] rfl)
set_option maxHeartbeats 4000000 in
set_option maxRecDepth 100000 in
theorem mX3_knownHands (l : Launch) {E : En} {c : Cy} {ly : Ly} {L : List Nat} {ad : Nat → Nat → Nat} {H : Heap} (hX : PX E c ly L ad H)   : RoI l yX3_knownHands cX3_knownHands 3 .int (rmk 3 0 0 64) [.ref (ad 0 0)] E H (nI (cntN (c.B 0) (c.R 10 1))) := by
  obtain ⟨hP, hly, hLb, wf⟩ := id hX
  refine ro_of (by decide) (Nat.le_of_ble_eq_true rfl) ?_
  intro p e s m below meth co ls hx hb hr hml hown hlocks hnm hC hU hl
  have hS : va_S noA s.heap H [] := by rw [hU]; exact va_S.rf
  have hAb : ∀ q, noA q → bA E q := fun _ h => h.elim
  have hl : lv_has ls 3 [(0, .ref (ad 0 0))] := hl
  refine lv_iconstN hx hb 0 dX3_knownHands_0 (by decide) ?_
  refine lv_istore_n (lv' := [(1, .int (nI 0)), (0, .ref (ad 0 0))]) hx hb dX3_knownHands_1 rfl hl (by decide) rfl (fun ls hl => ?_)
  refine lv_iconstN hx hb 0 dX3_knownHands_2 (by decide) ?_
  refine lv_istore_n (lv' := [(2, .int (nI 0)), (1, .int (nI 0)), (0, .ref (ad 0 0))]) hx hb dX3_knownHands_3 rfl hl (by decide) rfl (fun ls hl => ?_)
  have lp4 : ∀ fu : Nat, ∀ (k a : Nat), k ≤ c.R 10 1 → a = cntN (c.B 0) k → c.R 10 1 - k < fu → ∀ ls : Array Slot, lv_has ls 3 [(0, .ref (ad 0 0)), (1, .int (nI a)), (2, .int (nI k))] → W p l e (rmk 3 0 0 64) s m ([.ref (ad 0 0)] : List Value).toArray below meth co H [] 0 0 (MQ below (QiR (nI (cntN (c.B 0) (c.R 10 1))) H) ([.ref (ad 0 0)] : List Value).toArray s 0 0 noA) (F0 m 4 ls []) := by
    intro fu
    induction fu with
    | zero => intro k a hk ha hfu; exact absurd hfu (Nat.not_lt_zero _)
    | succ fu ih4 =>
      intro k a hk ha hfu ls hl
      refine lv_iload_n hx hb dX3_knownHands_4 rfl (lv_at hl 2 rfl) ?_
      refine lv_aload_n hx hb dX3_knownHands_5 rfl (lv_at hl 0 rfl) ?_
      refine pi_get hx hb hC hown hP fL_X3_16 0 0 cX_0 (v := .ref (ad 1 1)) rfl dX3_knownHands_6 ?_
      refine ro_V (As := []) (h0 := ad 1 1) (rest := [.int (nI k)]) (v := nI (c.R 10 1)) hx hb hml hown hC hS hAb (mJ_size l hP 1 (cX_1 (by decide))) kV_X3_43 ⟨rfl, rfl⟩ ⟨Nat.le_of_ble_eq_true rfl, Nat.le_of_ble_eq_true rfl⟩ (hP.recv hC (cX_1 (i := 1) (by decide)) rfl) rfl hl (Nat.le_of_ble_eq_true rfl) ⟨Nat.zero_le _, Nat.zero_le _⟩ dX3_knownHands_9 ?_
      have g_1 := wf.sh'
      have g_2 := wf.nh
      refine lv_icmpN_ge (tgt := 41) hx hb dX3_knownHands_12 (by decide) (by omega) (by omega) (fun c_12 => ?_) (fun c_12 => ?_)
      · skip
        refine lv_iload_n hx hb dX3_knownHands_41 rfl (lv_at hl 1 rfl) ?_
        exact ro_iret (x := nI a) hx hb hr hlocks hU (by first | (rw [ha, show k = c.R 10 1 by omega]; done) | (rw [ha, show k = c.R 10 1 by omega]; rfl)) dX3_knownHands_42
      · skip
        refine lv_aload_n hx hb dX3_knownHands_15 rfl (lv_at hl 0 rfl) ?_
        refine pi_get hx hb hC hown hP fL_X3_16 0 0 cX_0 (v := .ref (ad 1 1)) rfl dX3_knownHands_16 ?_
        refine lv_iload_n hx hb dX3_knownHands_19 rfl (lv_at hl 2 rfl) ?_
        refine ro_VR (As := [.int (nI k)]) (h0 := ad 1 1) (rest := []) (v := some (ad 5 k)) hx hb hml hown hC hS hAb (mJ_get l hP 1 (cX_1 (by decide)) (fun h9 => cX_2 (by decide) h9) (hly 1 (by decide)) k (by first | assumption | omega | (simp only [decide_eq_false_iff_not, decide_eq_true_eq] at *; omega))) kV_X3_327 ⟨rfl, rfl⟩ ⟨Nat.le_of_ble_eq_true rfl, Nat.le_of_ble_eq_true rfl⟩ (hP.recv hC (cX_1 (i := 1) (by decide)) rfl) rfl hl (Nat.le_of_ble_eq_true rfl) ⟨Nat.zero_le _, Nat.zero_le _⟩ dX3_knownHands_20 ?_
        have hg_3 : k < c.R 11 1 := by have := wf.sh'; omega
        refine pi_cast (nm := "") hx hb hC hown hP 5 k (cX_5 hg_3) rfl wCl_X3_65 dX3_knownHands_23 ?_
        refine pi_get hx hb hC hown hP fL_X3_246 5 k (cX_5 hg_3) (v := .int (bI (c.B 0 k))) rfl dX3_knownHands_26 ?_
        refine lv_bif_eq (tgt := 35) hx hb dX3_knownHands_29 (by decide) (fun c_29 => ?_) (fun c_29 => ?_)
        · skip
          refine lv_iincN (v := 1) (lv' := [(2, .int (nI (k + 1))), (0, .ref (ad 0 0)), (1, .int (nI a))]) hx hb dX3_knownHands_35 hl (k := 2) rfl (by decide) (by decide) rfl (fun ls hl => ?_)
          refine lv_goto (tgt := 4) hx hb dX3_knownHands_38 (by decide) ?_
          exact ih4 (k + 1) a (by first | rfl | assumption | omega | (simp [ha, c_12, c_29]; done) | (simp_all [ha, c_12, c_29]; done)) (by first | exact (congrArg (· + 1) ha).trans (cntN_t (by simp [ha, c_12, c_29])).symm | exact ha.trans (cntN_f (by simp [ha, c_12, c_29])).symm) (by omega) _ (lv_sub hl [1, 2, 0] rfl)
        · skip
          refine lv_iincN (v := 1) (lv' := [(1, .int (nI (a + 1))), (0, .ref (ad 0 0)), (2, .int (nI k))]) hx hb dX3_knownHands_32 hl (k := 1) rfl (by decide) (by decide) rfl (fun ls hl => ?_)
          refine lv_iincN (v := 1) (lv' := [(2, .int (nI (k + 1))), (1, .int (nI (a + 1))), (0, .ref (ad 0 0))]) hx hb dX3_knownHands_35 hl (k := 2) rfl (by decide) (by decide) rfl (fun ls hl => ?_)
          refine lv_goto (tgt := 4) hx hb dX3_knownHands_38 (by decide) ?_
          exact ih4 (k + 1) (a + 1) (by first | rfl | assumption | omega | (simp [ha, c_12, c_29]; done) | (simp_all [ha, c_12, c_29]; done)) (by first | exact (congrArg (· + 1) ha).trans (cntN_t (by simp [ha, c_12, c_29])).symm | exact ha.trans (cntN_f (by simp [ha, c_12, c_29])).symm) (by omega) _ (lv_sub hl [2, 1, 0] rfl)
  exact lp4 (c.R 10 1 - 0 + 1) 0 0 (by first | rfl | assumption | omega | (simp []; done) | (simp_all []; done)) (rfl) (Nat.lt_succ_self _) _ (lv_sub hl [2, 1, 0] rfl)
set_option maxHeartbeats 4000000 in
set_option maxRecDepth 100000 in
theorem mX3_allFines (l : Launch) {E : En} {c : Cy} {ly : Ly} {L : List Nat} {ad : Nat → Nat → Nat} {H : Heap} (hX : PX E c ly L ad H)   : RoI l yX3_allFines cX3_allFines 3 .int (rmk 3 0 0 64) [.ref (ad 0 0)] E H (smI (c.I 11) (c.R 10 1)) := by
  obtain ⟨hP, hly, hLb, wf⟩ := id hX
  refine ro_of (by decide) (Nat.le_of_ble_eq_true rfl) ?_
  intro p e s m below meth co ls hx hb hr hml hown hlocks hnm hC hU hl
  have hS : va_S noA s.heap H [] := by rw [hU]; exact va_S.rf
  have hAb : ∀ q, noA q → bA E q := fun _ h => h.elim
  have hl : lv_has ls 3 [(0, .ref (ad 0 0))] := hl
  refine lv_iconstN hx hb 0 dX3_allFines_0 (by decide) ?_
  refine lv_istore_n (lv' := [(1, .int (nI 0)), (0, .ref (ad 0 0))]) hx hb dX3_allFines_1 rfl hl (by decide) rfl (fun ls hl => ?_)
  refine lv_iconstN hx hb 0 dX3_allFines_2 (by decide) ?_
  refine lv_istore_n (lv' := [(2, .int (nI 0)), (1, .int (nI 0)), (0, .ref (ad 0 0))]) hx hb dX3_allFines_3 rfl hl (by decide) rfl (fun ls hl => ?_)
  have lp4 : ∀ fu : Nat, ∀ (k : Nat) (a : Int32), k ≤ c.R 10 1 → a = smI (c.I 11) k → c.R 10 1 - k < fu → ∀ ls : Array Slot, lv_has ls 3 [(0, .ref (ad 0 0)), (1, .int a), (2, .int (nI k))] → W p l e (rmk 3 0 0 64) s m ([.ref (ad 0 0)] : List Value).toArray below meth co H [] 0 0 (MQ below (QiR (smI (c.I 11) (c.R 10 1)) H) ([.ref (ad 0 0)] : List Value).toArray s 0 0 noA) (F0 m 4 ls []) := by
    intro fu
    induction fu with
    | zero => intro k a hk ha hfu; exact absurd hfu (Nat.not_lt_zero _)
    | succ fu ih4 =>
      intro k a hk ha hfu ls hl
      refine lv_iload_n hx hb dX3_allFines_4 rfl (lv_at hl 2 rfl) ?_
      refine lv_aload_n hx hb dX3_allFines_5 rfl (lv_at hl 0 rfl) ?_
      refine pi_get hx hb hC hown hP fL_X3_16 0 0 cX_0 (v := .ref (ad 1 1)) rfl dX3_allFines_6 ?_
      refine ro_V (As := []) (h0 := ad 1 1) (rest := [.int (nI k)]) (v := nI (c.R 10 1)) hx hb hml hown hC hS hAb (mJ_size l hP 1 (cX_1 (by decide))) kV_X3_43 ⟨rfl, rfl⟩ ⟨Nat.le_of_ble_eq_true rfl, Nat.le_of_ble_eq_true rfl⟩ (hP.recv hC (cX_1 (i := 1) (by decide)) rfl) rfl hl (Nat.le_of_ble_eq_true rfl) ⟨Nat.zero_le _, Nat.zero_le _⟩ dX3_allFines_9 ?_
      have g_1 := wf.sh'
      have g_2 := wf.nh
      refine lv_icmpN_ge (tgt := 38) hx hb dX3_allFines_12 (by decide) (by omega) (by omega) (fun c_12 => ?_) (fun c_12 => ?_)
      · skip
        refine lv_iload_n hx hb dX3_allFines_38 rfl (lv_at hl 1 rfl) ?_
        exact ro_iret (x := a) hx hb hr hlocks hU (by first | (rw [ha, show k = c.R 10 1 by omega]; done) | (rw [ha, show k = c.R 10 1 by omega]; rfl)) dX3_allFines_39
      · skip
        refine lv_iload_n hx hb dX3_allFines_15 rfl (lv_at hl 1 rfl) ?_
        refine lv_aload_n hx hb dX3_allFines_16 rfl (lv_at hl 0 rfl) ?_
        refine pi_get hx hb hC hown hP fL_X3_16 0 0 cX_0 (v := .ref (ad 1 1)) rfl dX3_allFines_17 ?_
        refine lv_iload_n hx hb dX3_allFines_20 rfl (lv_at hl 2 rfl) ?_
        refine ro_VR (As := [.int (nI k)]) (h0 := ad 1 1) (rest := [.int a]) (v := some (ad 5 k)) hx hb hml hown hC hS hAb (mJ_get l hP 1 (cX_1 (by decide)) (fun h9 => cX_2 (by decide) h9) (hly 1 (by decide)) k (by first | assumption | omega | (simp only [decide_eq_false_iff_not, decide_eq_true_eq] at *; omega))) kV_X3_327 ⟨rfl, rfl⟩ ⟨Nat.le_of_ble_eq_true rfl, Nat.le_of_ble_eq_true rfl⟩ (hP.recv hC (cX_1 (i := 1) (by decide)) rfl) rfl hl (Nat.le_of_ble_eq_true rfl) ⟨Nat.zero_le _, Nat.zero_le _⟩ dX3_allFines_21 ?_
        have hg_3 : k < c.R 11 1 := by have := wf.sh'; omega
        refine pi_cast (nm := "") hx hb hC hown hP 5 k (cX_5 hg_3) rfl wCl_X3_65 dX3_allFines_24 ?_
        refine pi_get hx hb hC hown hP fL_X3_208 5 k (cX_5 hg_3) (v := .int (c.I 11 k)) rfl dX3_allFines_27 ?_
        refine lv_iadd hx hb dX3_allFines_30 ?_
        refine lv_istore_n (lv' := [(1, .int (a + (c.I 11 k))), (0, .ref (ad 0 0)), (2, .int (nI k))]) hx hb dX3_allFines_31 rfl hl (by decide) rfl (fun ls hl => ?_)
        refine lv_iincN (v := 1) (lv' := [(2, .int (nI (k + 1))), (1, .int (a + (c.I 11 k))), (0, .ref (ad 0 0))]) hx hb dX3_allFines_32 hl (k := 2) rfl (by decide) (by decide) rfl (fun ls hl => ?_)
        refine lv_goto (tgt := 4) hx hb dX3_allFines_35 (by decide) ?_
        exact ih4 (k + 1) (a + (c.I 11 k)) (by first | rfl | assumption | omega | (simp [ha, c_12]; done) | (simp_all [ha, c_12]; done)) (by rw [ha]; rfl) (by omega) _ (lv_sub hl [2, 1, 0] rfl)
  exact lp4 (c.R 10 1 - 0 + 1) 0 (nI 0) (by first | rfl | assumption | omega | (simp []; done) | (simp_all []; done)) (rfl) (Nat.lt_succ_self _) _ (lv_sub hl [2, 1, 0] rfl)
set_option maxHeartbeats 4000000 in
set_option maxRecDepth 100000 in
theorem mX3_allOwed (l : Launch) {E : En} {c : Cy} {ly : Ly} {L : List Nat} {ad : Nat → Nat → Nat} {H : Heap} (hX : PX E c ly L ad H)   : RoI l yX3_allOwed cX3_allOwed 3 .int (rmk 3 0 0 64) [.ref (ad 0 0)] E H (smI (c.I 14) (c.R 10 1)) := by
  obtain ⟨hP, hly, hLb, wf⟩ := id hX
  refine ro_of (by decide) (Nat.le_of_ble_eq_true rfl) ?_
  intro p e s m below meth co ls hx hb hr hml hown hlocks hnm hC hU hl
  have hS : va_S noA s.heap H [] := by rw [hU]; exact va_S.rf
  have hAb : ∀ q, noA q → bA E q := fun _ h => h.elim
  have hl : lv_has ls 3 [(0, .ref (ad 0 0))] := hl
  refine lv_iconstN hx hb 0 dX3_allOwed_0 (by decide) ?_
  refine lv_istore_n (lv' := [(1, .int (nI 0)), (0, .ref (ad 0 0))]) hx hb dX3_allOwed_1 rfl hl (by decide) rfl (fun ls hl => ?_)
  refine lv_iconstN hx hb 0 dX3_allOwed_2 (by decide) ?_
  refine lv_istore_n (lv' := [(2, .int (nI 0)), (1, .int (nI 0)), (0, .ref (ad 0 0))]) hx hb dX3_allOwed_3 rfl hl (by decide) rfl (fun ls hl => ?_)
  have lp4 : ∀ fu : Nat, ∀ (k : Nat) (a : Int32), k ≤ c.R 10 1 → a = smI (c.I 14) k → c.R 10 1 - k < fu → ∀ ls : Array Slot, lv_has ls 3 [(0, .ref (ad 0 0)), (1, .int a), (2, .int (nI k))] → W p l e (rmk 3 0 0 64) s m ([.ref (ad 0 0)] : List Value).toArray below meth co H [] 0 0 (MQ below (QiR (smI (c.I 14) (c.R 10 1)) H) ([.ref (ad 0 0)] : List Value).toArray s 0 0 noA) (F0 m 4 ls []) := by
    intro fu
    induction fu with
    | zero => intro k a hk ha hfu; exact absurd hfu (Nat.not_lt_zero _)
    | succ fu ih4 =>
      intro k a hk ha hfu ls hl
      refine lv_iload_n hx hb dX3_allOwed_4 rfl (lv_at hl 2 rfl) ?_
      refine lv_aload_n hx hb dX3_allOwed_5 rfl (lv_at hl 0 rfl) ?_
      refine pi_get hx hb hC hown hP fL_X3_16 0 0 cX_0 (v := .ref (ad 1 1)) rfl dX3_allOwed_6 ?_
      refine ro_V (As := []) (h0 := ad 1 1) (rest := [.int (nI k)]) (v := nI (c.R 10 1)) hx hb hml hown hC hS hAb (mJ_size l hP 1 (cX_1 (by decide))) kV_X3_43 ⟨rfl, rfl⟩ ⟨Nat.le_of_ble_eq_true rfl, Nat.le_of_ble_eq_true rfl⟩ (hP.recv hC (cX_1 (i := 1) (by decide)) rfl) rfl hl (Nat.le_of_ble_eq_true rfl) ⟨Nat.zero_le _, Nat.zero_le _⟩ dX3_allOwed_9 ?_
      have g_1 := wf.sh'
      have g_2 := wf.nh
      refine lv_icmpN_ge (tgt := 38) hx hb dX3_allOwed_12 (by decide) (by omega) (by omega) (fun c_12 => ?_) (fun c_12 => ?_)
      · skip
        refine lv_iload_n hx hb dX3_allOwed_38 rfl (lv_at hl 1 rfl) ?_
        exact ro_iret (x := a) hx hb hr hlocks hU (by first | (rw [ha, show k = c.R 10 1 by omega]; done) | (rw [ha, show k = c.R 10 1 by omega]; rfl)) dX3_allOwed_39
      · skip
        refine lv_iload_n hx hb dX3_allOwed_15 rfl (lv_at hl 1 rfl) ?_
        refine lv_aload_n hx hb dX3_allOwed_16 rfl (lv_at hl 0 rfl) ?_
        refine pi_get hx hb hC hown hP fL_X3_16 0 0 cX_0 (v := .ref (ad 1 1)) rfl dX3_allOwed_17 ?_
        refine lv_iload_n hx hb dX3_allOwed_20 rfl (lv_at hl 2 rfl) ?_
        refine ro_VR (As := [.int (nI k)]) (h0 := ad 1 1) (rest := [.int a]) (v := some (ad 5 k)) hx hb hml hown hC hS hAb (mJ_get l hP 1 (cX_1 (by decide)) (fun h9 => cX_2 (by decide) h9) (hly 1 (by decide)) k (by first | assumption | omega | (simp only [decide_eq_false_iff_not, decide_eq_true_eq] at *; omega))) kV_X3_327 ⟨rfl, rfl⟩ ⟨Nat.le_of_ble_eq_true rfl, Nat.le_of_ble_eq_true rfl⟩ (hP.recv hC (cX_1 (i := 1) (by decide)) rfl) rfl hl (Nat.le_of_ble_eq_true rfl) ⟨Nat.zero_le _, Nat.zero_le _⟩ dX3_allOwed_21 ?_
        have hg_3 : k < c.R 11 1 := by have := wf.sh'; omega
        refine pi_cast (nm := "") hx hb hC hown hP 5 k (cX_5 hg_3) rfl wCl_X3_65 dX3_allOwed_24 ?_
        refine pi_get hx hb hC hown hP fL_X3_176 5 k (cX_5 hg_3) (v := .int (c.I 14 k)) rfl dX3_allOwed_27 ?_
        refine lv_iadd hx hb dX3_allOwed_30 ?_
        refine lv_istore_n (lv' := [(1, .int (a + (c.I 14 k))), (0, .ref (ad 0 0)), (2, .int (nI k))]) hx hb dX3_allOwed_31 rfl hl (by decide) rfl (fun ls hl => ?_)
        refine lv_iincN (v := 1) (lv' := [(2, .int (nI (k + 1))), (1, .int (a + (c.I 14 k))), (0, .ref (ad 0 0))]) hx hb dX3_allOwed_32 hl (k := 2) rfl (by decide) (by decide) rfl (fun ls hl => ?_)
        refine lv_goto (tgt := 4) hx hb dX3_allOwed_35 (by decide) ?_
        exact ih4 (k + 1) (a + (c.I 14 k)) (by first | rfl | assumption | omega | (simp [ha, c_12]; done) | (simp_all [ha, c_12]; done)) (by rw [ha]; rfl) (by omega) _ (lv_sub hl [2, 1, 0] rfl)
  exact lp4 (c.R 10 1 - 0 + 1) 0 (nI 0) (by first | rfl | assumption | omega | (simp []; done) | (simp_all []; done)) (rfl) (Nat.lt_succ_self _) _ (lv_sub hl [2, 1, 0] rfl)
set_option maxHeartbeats 4000000 in
set_option maxRecDepth 100000 in
theorem mX3_mixed (l : Launch) {E : En} {H : Heap} (d : Int64) (v : Int32)  : RoL l yX3_mixed cX3_mixed 3 (rmk 0 0 0 0) [.long d, .int v] E H (d * 31 + v.toInt64) := by
  refine ro_of (by decide) (Nat.le_of_ble_eq_true rfl) ?_
  intro p e s m below meth co ls hx hb hr hml hown hlocks hnm hC hU hl
  have hS : va_S noA s.heap H [] := by rw [hU]; exact va_S.rf
  have hAb : ∀ q, noA q → bA E q := fun _ h => h.elim
  have hl : lv_has ls 3 [(0, .long d), (2, .int v)] := hl
  refine lv_lload_n hx hb dX3_mixed_0 rfl (lv_at hl 0 rfl) ?_
  refine lv_ldc2 (v := 31) hx hb hown (hC.2.1.at (List.mem_append_right _ (List.mem_of_getElem? (i := 630) (by decide +kernel))) (by decide +kernel) _) dX3_mixed_1 ?_
  refine lv_lmul hx hb dX3_mixed_4 ?_
  refine lv_iload_n hx hb dX3_mixed_5 rfl (lv_at hl 1 rfl) ?_
  refine lv_i2l (v := (v).toInt64) hx hb dX3_mixed_6 rfl ?_
  refine lv_ladd hx hb dX3_mixed_7 ?_
  exact ro_lret (x := (d * 31) + ((v).toInt64)) hx hb hr hlocks hU (by first | rfl | (simp []; done) | (simp []; omega) | (simp_all []; done)) dX3_mixed_8
set_option maxHeartbeats 4000000 in
set_option maxRecDepth 100000 in
theorem mX3_nextBuff (l : Launch) {E : En} {c : Cy} {ly : Ly} {L : List Nat} {ad : Nat → Nat → Nat} {H : Heap} (hX : PX E c ly L ad H)   : RoI l yX3_nextBuff cX3_nextBuff 6 .int (rmk 5 0 0 110) [.ref (ad 0 0)] E H (nbS c) := by
  obtain ⟨hP, hly, hLb, wf⟩ := id hX
  refine ro_of (by decide) (Nat.le_of_ble_eq_true rfl) ?_
  intro p e s m below meth co ls hx hb hr hml hown hlocks hnm hC hU hl
  have hS : va_S noA s.heap H [] := by rw [hU]; exact va_S.rf
  have hAb : ∀ q, noA q → bA E q := fun _ h => h.elim
  have hl : lv_has ls 6 [(0, .ref (ad 0 0))] := hl
  refine lv_iconst (v := -1) hx hb dX3_nextBuff_0 (by decide) ?_
  refine lv_istore_n (lv' := [(1, .int (-1)), (0, .ref (ad 0 0))]) hx hb dX3_nextBuff_1 rfl hl (by decide) rfl (fun ls hl => ?_)
  refine lv_iconstN hx hb 0 dX3_nextBuff_2 (by decide) ?_
  refine lv_istore_n (lv' := [(2, .int (nI 0)), (1, .int (-1)), (0, .ref (ad 0 0))]) hx hb dX3_nextBuff_3 rfl hl (by decide) rfl (fun ls hl => ?_)
  refine lv_iconstN hx hb 0 dX3_nextBuff_4 (by decide) ?_
  refine lv_istore_n (lv' := [(3, .int (nI 0)), (2, .int (nI 0)), (1, .int (-1)), (0, .ref (ad 0 0))]) hx hb dX3_nextBuff_5 rfl hl (by decide) rfl (fun ls hl => ?_)
  have lp6 : ∀ fu : Nat, ∀ (k : Nat) (b2 m2 : Int32), k ≤ c.R 10 0 → b2 = (nbF c k).1 → m2 = (nbF c k).2 → c.R 10 0 - k < fu → ∀ ls : Array Slot, lv_has ls 6 [(0, .ref (ad 0 0)), (1, .int b2), (2, .int m2), (3, .int (nI k))] → W p l e (rmk 5 0 0 110) s m ([.ref (ad 0 0)] : List Value).toArray below meth co H [] 0 0 (MQ below (QiR (nbS c) H) ([.ref (ad 0 0)] : List Value).toArray s 0 0 noA) (F0 m 6 ls []) := by
    intro fu
    induction fu with
    | zero => intro k b2 m2 hk h1 h2 hfu; exact absurd hfu (Nat.not_lt_zero _)
    | succ fu ih6 =>
      intro k b2 m2 hk h1 h2 hfu ls hl
      refine lv_iload_n hx hb dX3_nextBuff_6 rfl (lv_at hl 3 rfl) ?_
      refine lv_aload_n hx hb dX3_nextBuff_7 rfl (lv_at hl 0 rfl) ?_
      refine pi_get hx hb hC hown hP fL_X3_10 0 0 cX_0 (v := .ref (ad 1 0)) rfl dX3_nextBuff_8 ?_
      refine ro_V (As := []) (h0 := ad 1 0) (rest := [.int (nI k)]) (v := nI (c.R 10 0)) hx hb hml hown hC hS hAb (mJ_size l hP 0 (cX_1 (by decide))) kV_X3_43 ⟨rfl, rfl⟩ ⟨Nat.le_of_ble_eq_true rfl, Nat.le_of_ble_eq_true rfl⟩ (hP.recv hC (cX_1 (i := 0) (by decide)) rfl) rfl hl (Nat.le_of_ble_eq_true rfl) ⟨Nat.zero_le _, Nat.zero_le _⟩ dX3_nextBuff_11 ?_
      have g_1 := wf.sw
      have g_2 := wf.nw
      refine lv_icmpN_ge (tgt := 68) hx hb dX3_nextBuff_14 (by decide) (by omega) (by omega) (fun c_14 => ?_) (fun c_14 => ?_)
      · skip
        refine lv_iload_n hx hb dX3_nextBuff_68 rfl (lv_at hl 1 rfl) ?_
        exact ro_iret (x := b2) hx hb hr hlocks hU (by rw [h1, show k = c.R 10 0 by omega]; rfl) dX3_nextBuff_69
      · skip
        refine lv_aload_n hx hb dX3_nextBuff_17 rfl (lv_at hl 0 rfl) ?_
        refine pi_get hx hb hC hown hP fL_X3_10 0 0 cX_0 (v := .ref (ad 1 0)) rfl dX3_nextBuff_18 ?_
        refine lv_iload_n hx hb dX3_nextBuff_21 rfl (lv_at hl 3 rfl) ?_
        refine ro_VR (As := [.int (nI k)]) (h0 := ad 1 0) (rest := []) (v := some (ad 3 k)) hx hb hml hown hC hS hAb (mJ_get l hP 0 (cX_1 (by decide)) (fun h9 => cX_2 (by decide) h9) (hly 0 (by decide)) k (by first | assumption | omega | (simp only [decide_eq_false_iff_not, decide_eq_true_eq] at *; omega))) kV_X3_327 ⟨rfl, rfl⟩ ⟨Nat.le_of_ble_eq_true rfl, Nat.le_of_ble_eq_true rfl⟩ (hP.recv hC (cX_1 (i := 0) (by decide)) rfl) rfl hl (Nat.le_of_ble_eq_true rfl) ⟨Nat.zero_le _, Nat.zero_le _⟩ dX3_nextBuff_22 ?_
        have hg_3 : k < c.R 11 0 := by have := wf.sw; omega
        refine pi_cast (nm := "") hx hb hC hown hP 3 k (cX_3 hg_3) rfl wCl_X3_52 dX3_nextBuff_25 ?_
        refine lv_astore (lv' := [(4, .ref (ad 3 k)), (0, .ref (ad 0 0)), (1, .int b2), (2, .int m2), (3, .int (nI k))]) hx hb dX3_nextBuff_28 hl (by decide) rfl (fun ls hl => ?_)
        refine lv_aload_n hx hb dX3_nextBuff_30 rfl (lv_at hl 1 rfl) ?_
        refine lv_aload hx hb dX3_nextBuff_31 (lv_at hl 0 rfl) ?_
        refine ro_V (As := [.ref (ad 3 k)]) (h0 := ad 0 0) (rest := []) (v := eyS c k) hx hb hml hown hC hS hAb (mX3_eyesoreOf l hX k hg_3) kV_X3_227 ⟨rfl, rfl⟩ ⟨Nat.le_of_ble_eq_true rfl, Nat.le_of_ble_eq_true rfl⟩ (hP.recv hC cX_0 rfl) rfl hl (Nat.le_of_ble_eq_true rfl) ⟨Nat.zero_le _, Nat.zero_le _⟩ dX3_nextBuff_33 ?_
        refine lv_istore (lv' := [(5, .int (eyS c k)), (4, .ref (ad 3 k)), (0, .ref (ad 0 0)), (1, .int b2), (2, .int m2), (3, .int (nI k))]) hx hb dX3_nextBuff_36 hl (by decide) rfl (fun ls hl => ?_)
        refine lv_aload_n hx hb dX3_nextBuff_38 rfl (lv_at hl 2 rfl) ?_
        refine lv_aload hx hb dX3_nextBuff_39 (lv_at hl 1 rfl) ?_
        refine ro_V (As := [.ref (ad 3 k)]) (h0 := ad 0 0) (rest := []) (v := nI (ctbS c k)) hx hb hml hown hC hS hAb (mX3_cellsToBuff l hX k hg_3) kV_X3_148 ⟨rfl, rfl⟩ ⟨Nat.le_of_ble_eq_true rfl, Nat.le_of_ble_eq_true rfl⟩ (hP.recv hC cX_0 rfl) rfl hl (Nat.le_of_ble_eq_true rfl) ⟨Nat.zero_le _, Nat.zero_le _⟩ dX3_nextBuff_41 ?_
        refine lv_aload_n hx hb dX3_nextBuff_44 rfl (lv_at hl 2 rfl) ?_
        refine pi_get hx hb hC hown hP fL_X3_26 0 0 cX_0 (v := .int (c.I 0 0)) rfl dX3_nextBuff_45 ?_
        refine lv_icmp_gt (tgt := 62) hx hb dX3_nextBuff_48 (by decide) (fun c_48 => ?_) (fun c_48 => ?_)
        · skip
          refine lv_iincN (v := 1) (lv' := [(3, .int (nI (k + 1))), (5, .int (eyS c k)), (4, .ref (ad 3 k)), (0, .ref (ad 0 0)), (1, .int b2), (2, .int m2)]) hx hb dX3_nextBuff_62 hl (k := 5) rfl (by decide) (by decide) rfl (fun ls hl => ?_)
          refine lv_goto (tgt := 6) hx hb dX3_nextBuff_65 (by decide) ?_
          exact ih6 (k + 1) b2 m2 (by first | rfl | assumption | omega | (simp [c_14, c_48]; done) | (simp_all [c_14, c_48]; done)) (by first | (rw [h1]; simp only [nbF]; rw [if_neg (by simp [← h1, ← h2, c_14, c_48])]) | (simp only [nbF]; rw [if_pos (by simp [← h1, ← h2, c_14, c_48])])) (by first | (rw [h2]; simp only [nbF]; rw [if_neg (by simp [← h1, ← h2, c_14, c_48])]) | (simp only [nbF]; rw [if_pos (by simp [← h1, ← h2, c_14, c_48])])) (by omega) _ (lv_sub hl [3, 4, 5, 0] rfl)
        · skip
          refine lv_iload hx hb dX3_nextBuff_51 (lv_at hl 0 rfl) ?_
          refine lv_iload_n hx hb dX3_nextBuff_53 rfl (lv_at hl 4 rfl) ?_
          refine lv_icmp_le (tgt := 62) hx hb dX3_nextBuff_54 (by decide) (fun c_54 => ?_) (fun c_54 => ?_)
          · skip
            have c_54 := Int32.not_lt.mpr c_54
            refine lv_iincN (v := 1) (lv' := [(3, .int (nI (k + 1))), (5, .int (eyS c k)), (4, .ref (ad 3 k)), (0, .ref (ad 0 0)), (1, .int b2), (2, .int m2)]) hx hb dX3_nextBuff_62 hl (k := 5) rfl (by decide) (by decide) rfl (fun ls hl => ?_)
            refine lv_goto (tgt := 6) hx hb dX3_nextBuff_65 (by decide) ?_
            exact ih6 (k + 1) b2 m2 (by first | rfl | assumption | omega | (simp [c_14, c_48, c_54]; done) | (simp_all [c_14, c_48, c_54]; done)) (by first | (rw [h1]; simp only [nbF]; rw [if_neg (by simp [← h1, ← h2, c_14, c_48, c_54])]) | (simp only [nbF]; rw [if_pos (by simp [← h1, ← h2, c_14, c_48, c_54])])) (by first | (rw [h2]; simp only [nbF]; rw [if_neg (by simp [← h1, ← h2, c_14, c_48, c_54])]) | (simp only [nbF]; rw [if_pos (by simp [← h1, ← h2, c_14, c_48, c_54])])) (by omega) _ (lv_sub hl [3, 4, 5, 0] rfl)
          · skip
            have c_54 := Int32.not_le.mp c_54
            refine lv_iload_n hx hb dX3_nextBuff_57 rfl (lv_at hl 5 rfl) ?_
            refine lv_istore_n (lv' := [(1, .int (nI k)), (5, .int (eyS c k)), (4, .ref (ad 3 k)), (0, .ref (ad 0 0)), (2, .int m2), (3, .int (nI k))]) hx hb dX3_nextBuff_58 rfl hl (by decide) rfl (fun ls hl => ?_)
            refine lv_iload hx hb dX3_nextBuff_59 (lv_at hl 1 rfl) ?_
            refine lv_istore_n (lv' := [(2, .int (eyS c k)), (1, .int (nI k)), (5, .int (eyS c k)), (4, .ref (ad 3 k)), (0, .ref (ad 0 0)), (3, .int (nI k))]) hx hb dX3_nextBuff_61 rfl hl (by decide) rfl (fun ls hl => ?_)
            refine lv_iincN (v := 1) (lv' := [(3, .int (nI (k + 1))), (2, .int (eyS c k)), (1, .int (nI k)), (5, .int (eyS c k)), (4, .ref (ad 3 k)), (0, .ref (ad 0 0))]) hx hb dX3_nextBuff_62 hl (k := 5) rfl (by decide) (by decide) rfl (fun ls hl => ?_)
            refine lv_goto (tgt := 6) hx hb dX3_nextBuff_65 (by decide) ?_
            exact ih6 (k + 1) (nI k) (eyS c k) (by first | rfl | assumption | omega | (simp [c_14, c_48, c_54]; done) | (simp_all [c_14, c_48, c_54]; done)) (by first | (rw [h1]; simp only [nbF]; rw [if_neg (by simp [← h1, ← h2, c_14, c_48, c_54])]) | (simp only [nbF]; rw [if_pos (by simp [← h1, ← h2, c_14, c_48, c_54])])) (by first | (rw [h2]; simp only [nbF]; rw [if_neg (by simp [← h1, ← h2, c_14, c_48, c_54])]) | (simp only [nbF]; rw [if_pos (by simp [← h1, ← h2, c_14, c_48, c_54])])) (by omega) _ (lv_sub hl [5, 2, 1, 0] rfl)
  exact lp6 (c.R 10 0 - 0 + 1) 0 (-1) (nI 0) (by first | rfl | assumption | omega | (simp []; done) | (simp_all []; done)) (rfl) (rfl) (Nat.lt_succ_self _) _ (lv_sub hl [3, 2, 1, 0] rfl)
