/-! walls and hands -/
theorem wCa_X2_O : CO RX2 := fun s h => wn_t 773 (by decide +kernel) (by decide +kernel) h
theorem wCa_X0_O : CO RX0 := fun s h => wn_t 774 (by decide +kernel) (by decide +kernel) h
theorem wCa_X1_O : CO RX1 := fun s h => wn_t 768 (by decide +kernel) (by decide +kernel) h
set_option maxHeartbeats 4000000 in
set_option maxRecDepth 100000 in
theorem mX3_wall_g (l : Launch) {E : En} {c : Cy} {ly : Ly} {L : List Nat} {ad : Nat → Nat → Nat} {H0 : Heap} (hX : PX E c ly L ad H0) (w cl : Nat) (sg ow : Int32) (hw : 4 ≤ w) (hw2 : w ≤ 16) (hg : ∃ q : Nat, 1 ≤ q ∧ q ≤ 9 ∧ sg = nI q) (hg2 : isInS sg (nI 1) (nI 9) = true) (ho : isInS ow (nI 0) (nI 3) = true) (hc : cl = 0 ∨ 2 ≤ cl) (hc2 : cl ≤ 20) (hs : c.R 10 0 < 6) (heq : c.R 10 0 = c.R 11 0) : MuI l yX3_wall cX3_wall 7 .int (rmk 7 3 226 201) [.ref (ad 0 0), .int (nI w), .int sg, .int ow, .int (nI cl)] E H0 (nI (c.R 10 0)) (fun H1 => ∃ (L2 : List Nat) (ly2 : Ly) (ad2 : Nat → Nat → Nat), PX E (lsC (mkW c w cl sg ow) 0) ly2 L2 ad2 H1 ∧ ad2 0 0 = ad 0 0 ∧ (∀ q, q ∈ L2 → q ∈ L ∨ H0.size ≤ q)) (cA L H0) 3 226 := by
  obtain ⟨hP, hly, hLb, wf⟩ := id hX
  have wfx := wf
  refine ro_of (by decide) (Nat.le_of_ble_eq_true rfl) ?_
  intro p e s m below meth co ls hx hb hr hml hown hlocks hnm hC hU hl
  have hS : va_S (cA L H0) s.heap H0 [] := by rw [hU]; exact va_S.rf
  have hA : ∀ q, q ∈ L → cA L H0 q := fun q h => Or.inl h
  have hN : ∀ q, s.heap.size ≤ q → cA L H0 q := fun q h => Or.inr (by rw [← hU]; exact h)
  have hAb : ∀ q, cA L H0 q → bA E q := fun q h => h.elim (hLb q) (fun z => Nat.le_trans hC.2.2.2.1 (by rw [hU]; exact z))
  have hl : lv_has ls 7 [(0, .ref (ad 0 0)), (1, .int (nI w)), (2, .int sg), (3, .int ow), (4, .int (nI cl))] := hl
  have e00 : ad 0 0 = ad 0 0 := rfl
  refine lv_iload hx hb dX3_wall_0 (lv_at hl 4 rfl) ?_
  refine lv_ifN_eq (tgt := 16) hx hb dX3_wall_2 (by decide) (by omega) (fun c_2 => ?_) (fun c_2 => ?_)
  · skip
    refine lv_iconstN hx hb 1 dX3_wall_16 (by decide) ?_
    refine lv_goto (tgt := 21) hx hb dX3_wall_17 (by decide) ?_
    refine lv_istore (lv' := [(5, .int (nI 1)), (0, .ref (ad 0 0)), (1, .int (nI w)), (2, .int sg), (3, .int ow), (4, .int (nI cl))]) hx hb dX3_wall_21 hl (by decide) rfl (fun ls hl => ?_)
    refine lv_iload_n hx hb dX3_wall_23 rfl (lv_at hl 2 rfl) ?_
    refine lv_iconstN hx hb 4 dX3_wall_24 (by decide) ?_
    refine lv_bipushN hx hb 16 dX3_wall_25 (by decide) ?_
    refine ro_S (As := [.int (nI w), .int (nI 4), .int (nI 16)]) (rest := []) (v := bI (isInS (nI w) (nI 4) (nI 16))) hx hb hml hown hC hS hAb (mX3_isWithin l (nI w) (nI 4) (nI 16) ) kS_X3_32 ⟨rfl, rfl⟩ ⟨Nat.le_of_ble_eq_true rfl, Nat.le_of_ble_eq_true rfl⟩ rfl hl (Nat.le_of_ble_eq_true rfl) ⟨show _ ≤ (3 : Nat) by omega, show _ ≤ (226 : Nat) by omega⟩ dX3_wall_27 ?_
    refine lv_bif_eq (tgt := 57) hx hb dX3_wall_30 (by decide) (fun c_30 => ?_) (fun c_30 => ?_)
    · skip
      exact absurd (c_30.symm.trans (isIn_1 hw hw2 (by decide))) (by decide)
    · skip
      refine lv_iload_n hx hb dX3_wall_33 rfl (lv_at hl 3 rfl) ?_
      refine lv_iconstN hx hb 1 dX3_wall_34 (by decide) ?_
      refine lv_bipushN hx hb 9 dX3_wall_35 (by decide) ?_
      refine ro_S (As := [.int sg, .int (nI 1), .int (nI 9)]) (rest := []) (v := bI (isInS sg (nI 1) (nI 9))) hx hb hml hown hC hS hAb (mX3_isWithin l sg (nI 1) (nI 9) ) kS_X3_32 ⟨rfl, rfl⟩ ⟨Nat.le_of_ble_eq_true rfl, Nat.le_of_ble_eq_true rfl⟩ rfl hl (Nat.le_of_ble_eq_true rfl) ⟨show _ ≤ (3 : Nat) by omega, show _ ≤ (226 : Nat) by omega⟩ dX3_wall_37 ?_
      refine lv_bif_eq (tgt := 57) hx hb dX3_wall_40 (by decide) (fun c_40 => ?_) (fun c_40 => ?_)
      · skip
        exact absurd (c_40.symm.trans hg2) (by decide)
      · skip
        refine lv_iload_n hx hb dX3_wall_43 rfl (lv_at hl 4 rfl) ?_
        refine lv_iconstN hx hb 0 dX3_wall_44 (by decide) ?_
        refine lv_iconstN hx hb 3 dX3_wall_45 (by decide) ?_
        refine ro_S (As := [.int ow, .int (nI 0), .int (nI 3)]) (rest := []) (v := bI (isInS ow (nI 0) (nI 3))) hx hb hml hown hC hS hAb (mX3_isWithin l ow (nI 0) (nI 3) ) kS_X3_32 ⟨rfl, rfl⟩ ⟨Nat.le_of_ble_eq_true rfl, Nat.le_of_ble_eq_true rfl⟩ rfl hl (Nat.le_of_ble_eq_true rfl) ⟨show _ ≤ (3 : Nat) by omega, show _ ≤ (226 : Nat) by omega⟩ dX3_wall_46 ?_
        refine lv_bif_eq (tgt := 57) hx hb dX3_wall_49 (by decide) (fun c_49 => ?_) (fun c_49 => ?_)
        · skip
          exact absurd (c_49.symm.trans ho) (by decide)
        · skip
          refine lv_iload hx hb dX3_wall_52 (lv_at hl 0 rfl) ?_
          refine lv_ifN_ne (tgt := 67) hx hb dX3_wall_54 (by decide) (by omega) (fun c_54 => ?_) (fun c_54 => ?_)
          · skip
            refine lv_aload_n hx hb dX3_wall_67 rfl (lv_at hl 1 rfl) ?_
            refine pi_get hx hb hC hown hP fL_X3_10 0 0 cX_0 (v := .ref (ad 1 0)) rfl dX3_wall_68 ?_
            refine ro_V (As := []) (h0 := ad 1 0) (rest := []) (v := nI (c.R 10 0)) hx hb hml hown hC hS hAb (mJ_size l hP 0 (cX_1 (by decide))) kV_X3_43 ⟨rfl, rfl⟩ ⟨Nat.le_of_ble_eq_true rfl, Nat.le_of_ble_eq_true rfl⟩ (hP.recv hC (cX_1 (i := 0) (by decide)) rfl) rfl hl (Nat.le_of_ble_eq_true rfl) ⟨show _ ≤ (3 : Nat) by omega, show _ ≤ (226 : Nat) by omega⟩ dX3_wall_71 ?_
            have g_1 := wf.sw
            have g_2 := wf.nw
            refine lv_istore (lv' := [(6, .int (nI (c.R 10 0))), (5, .int (nI 1)), (0, .ref (ad 0 0)), (1, .int (nI w)), (2, .int sg), (3, .int ow), (4, .int (nI cl))]) hx hb dX3_wall_74 hl (by decide) rfl (fun ls hl => ?_)
            refine lv_iload hx hb dX3_wall_76 (lv_at hl 0 rfl) ?_
            refine lv_bipushN hx hb 6 dX3_wall_78 (by decide) ?_
            refine lv_icmpN_lt (tgt := 93) hx hb dX3_wall_80 (by decide) (by omega) (by omega) (fun c_80 => ?_) (fun c_80 => ?_)
            · skip
              refine lv_aload_n hx hb dX3_wall_93 rfl (lv_at hl 2 rfl) ?_
              refine pi_get hx hb hC hown hP fL_X3_10 0 0 cX_0 (v := .ref (ad 1 0)) rfl dX3_wall_94 ?_
              refine pi_newC (ci := 4) (fs := [.int (nI 0), .int (nI 0), .int (nI 0), .int (nI 0), .int (nI 0), .null, .int (nI 0), .int (nI 0), .int (nI 0), .int (nI 0)]) (C := RX2) (T := TX2) (N := 10) hx hb hC hown hP hS hA hN wU_X2 tyX2 tyX2_ok wCl_X3_52 wIa_X2 wIn_X2 rfl (fun j hj => by match j, hj with | 0, _ => rfl | 1, _ => rfl | 2, _ => rfl | 3, _ => rfl | 4, _ => rfl | 5, _ => rfl | 6, _ => rfl | 7, _ => rfl | 8, _ => rfl | 9, _ => rfl) 3 (c.R 11 0) ⟨show 0 + 1 ≤ (3 : Nat) by omega, show 0 + 10 ≤ (226 : Nat) by omega⟩ dX3_wall_97 (fun q H hqL hAq hQ hS => ?_)
              obtain ⟨L, hQ, hX, hA⟩ := pX_new hX hQ hA hAq hAb (if_neg (Nat.lt_irrefl _))
              obtain ⟨hP, hly, hLb, wfx⟩ := id hX
              refine lv_dup hx hb dX3_wall_100 rfl ?_
              refine lv_iload hx hb dX3_wall_101 (lv_at hl 0 rfl) ?_
              refine lv_iload_n hx hb dX3_wall_103 rfl (lv_at hl 3 rfl) ?_
              refine lv_iload_n hx hb dX3_wall_104 rfl (lv_at hl 4 rfl) ?_
              refine lv_iload_n hx hb dX3_wall_105 rfl (lv_at hl 5 rfl) ?_
              refine lv_iload hx hb dX3_wall_106 (lv_at hl 6 rfl) ?_
              have en : c.R 10 0 = c.R 11 0 := by omega
              have hM := mX2_init l (c.R 11 0) hQ (c.R 10 0) w cl sg ow (by omega)
              rw [up2_same] at hM
              rw [en] at hM
              rw [en]
              refine mu_I (As := [.int (nI (c.R 11 0)), .int (nI w), .int sg, .int ow, .int (nI cl)]) (h0 := q) (rest := [.ref q, .ref (ad 1 0)]) hx hb hml hown hC hS hAb hM (fun z h => h.elim (hA z) (fun h => hN z (Nat.le_trans hS.1 h))) kI_X3_54 ⟨rfl, rfl⟩ ⟨Nat.le_of_ble_eq_true rfl, Nat.le_of_ble_eq_true rfl⟩ rfl hl (Nat.le_of_ble_eq_true rfl) ⟨show 1 + 1 ≤ (3 : Nat) by omega, show 10 + 16 ≤ (226 : Nat) by omega⟩ dX3_wall_108 (fun H locs hB hS9 hz hk => ?_)
              obtain ⟨q2, hq2, -, hB⟩ := hB
              have hA := fun z (h : z ∈ L ++ [q2]) => (List.mem_append.mp h).elim (hA z) (fun h => by rw [List.mem_singleton.mp h]; exact hN q2 (Nat.le_trans hS.1 hq2))
              have hS := hS9
              obtain ⟨L, ad, hX, hA, e1, e2⟩ := pX_W hX hB hA hAb (WF_mkW wfx (by omega) ⟨by omega, by omega⟩ (by omega) hg)
              have e1 : ad 3 (c.R 11 0) = q := e1
              have e00 := (e2 0 0 (by omega) (by omega)).trans e00
              have hX : PX E ((mkW c w cl sg ow).R, (mkW c w cl sg ow).I, c.B, c.Wr, (mkW c w cl sg ow).sh) ly L ad H := hX
              obtain ⟨hP, hly, hLb, wfx⟩ := id hX
              have hLb := fun z h => hAb z (hA z h)
              have hn_3 : c.R 11 0 < (mkW c w cl sg ow).R 11 0 := by rw [show (mkW c w cl sg ow).R 11 0 = c.R 11 0 + 1 by simp [mkW_R, up2]]; exact Nat.lt_succ_self _
              have hl : lv_has ls 7 [(6, .int (nI (c.R 10 0))), (5, .int (nI 1)), (0, .ref (ad 0 0)), (1, .int (nI w)), (2, .int sg), (3, .int ow), (4, .int (nI cl))] := by rw [e2 0 0 (by omega) (by omega)]; exact hl
              refine W.eq (g2 := F0 m 111 ls [.ref (ad 3 (c.R 11 0)), .ref (ad 1 0)]) (by rw [e1, e2 1 0 (by omega) (by omega)]) ?_
              have hn9 : c.R 11 0 = c.R 10 0 := by omega
              have hM := mJ_add1 l hP hLb 0 (by decide) (n := c.R 10 0) (p := ly.2 0) (md := ly.1 0) (cX_1 (by decide)) (fun h9 => cX_2 (by decide) h9) (hly 0 (by decide)).1 (by omega) (hly 0 (by decide)).2.1 (hly 0 (by decide)).2.2 rfl (ci := 4) (C := RX2) rfl wCa_X2_O (fun j hj => ⟨_, cX_3 (Nat.lt_of_le_of_lt hj (show c.R 10 0 < (mkW c w cl sg ow).R 11 0 by omega))⟩)
              rw [hn9]
              refine mu_V (As := [.ref (ad 3 (c.R 10 0))]) (h0 := ad 1 0) (rest := []) (v := bI true) hx hb hml hown hC hS hAb hM (fun q h => h.elim (hA q) (fun z => hN q (Nat.le_trans hS.1 z))) kV_X3_57 ⟨rfl, rfl⟩ ⟨Nat.le_of_ble_eq_true rfl, Nat.le_of_ble_eq_true rfl⟩ (hP.recv hC (cX_1 (i := 0) (by decide)) rfl) rfl hl (Nat.le_of_ble_eq_true rfl) ⟨show 2 + 1 ≤ (3 : Nat) by omega, show 26 + 200 ≤ (226 : Nat) by omega⟩ dX3_wall_111 (fun H locs hB hS9 hz hk => ?_)
              obtain ⟨L, ly, ad, hX, hA, e2⟩ := lX_add (by decide) hX hB rfl (show c.R 10 0 < (mkW c w cl sg ow).R 11 0 by omega) hA (fun z h => hN z (Nat.le_trans hS.1 h)) hAb
              have hS := hS9
              have e00 := (e2 0 0 (by omega)).trans e00
              have hX : PX E (up2 ((mkW c w cl sg ow).R) 10 0 (c.R 10 0 + 1), (mkW c w cl sg ow).I, c.B, c.Wr, (mkW c w cl sg ow).sh) ly L ad H := hX
              obtain ⟨hP, hly, hLb, wfx⟩ := id hX
              have hl : lv_has ls 7 [(6, .int (nI (c.R 10 0))), (5, .int (nI 1)), (0, .ref (ad 0 0)), (1, .int (nI w)), (2, .int sg), (3, .int ow), (4, .int (nI cl))] := by rw [e2 0 0 (by omega)]; exact hl
              refine W.eq (g2 := F0 m 114 ls [.int (bI true)]) (rfl) ?_
              refine lv_pop hx hb dX3_wall_114 rfl ?_
              refine lv_iload hx hb dX3_wall_115 (lv_at hl 0 rfl) ?_
              exact mu_iret (x := nI (c.R 10 0)) hx hb hr hlocks hS (⟨L, ly, ad, hX, e00, hA⟩) (by first | rfl | (simp [c_2, c_30, c_40, c_49, c_80]; done) | (simp [c_2, c_30, c_40, c_49, c_80]; omega) | (simp_all [c_2, c_30, c_40, c_49, c_80]; done)) dX3_wall_117
            · skip
              exact absurd hs (by omega)
          · skip
            exact absurd c_54 (by decide)
  · skip
    refine lv_iload hx hb dX3_wall_5 (lv_at hl 4 rfl) ?_
    refine lv_iconstN hx hb 2 dX3_wall_7 (by decide) ?_
    refine lv_bipushN hx hb 20 dX3_wall_8 (by decide) ?_
    refine ro_S (As := [.int (nI cl), .int (nI 2), .int (nI 20)]) (rest := []) (v := bI (isInS (nI cl) (nI 2) (nI 20))) hx hb hml hown hC hS hAb (mX3_isWithin l (nI cl) (nI 2) (nI 20) ) kS_X3_32 ⟨rfl, rfl⟩ ⟨Nat.le_of_ble_eq_true rfl, Nat.le_of_ble_eq_true rfl⟩ rfl hl (Nat.le_of_ble_eq_true rfl) ⟨show _ ≤ (3 : Nat) by omega, show _ ≤ (226 : Nat) by omega⟩ dX3_wall_10 ?_
    refine lv_bif_eq (tgt := 20) hx hb dX3_wall_13 (by decide) (fun c_13 => ?_) (fun c_13 => ?_)
    · skip
      exact absurd (c_13.symm.trans (isIn_1 (by omega) hc2 (by decide))) (by decide)
    · skip
      refine lv_iconstN hx hb 1 dX3_wall_16 (by decide) ?_
      refine lv_goto (tgt := 21) hx hb dX3_wall_17 (by decide) ?_
      refine lv_istore (lv' := [(5, .int (nI 1)), (0, .ref (ad 0 0)), (1, .int (nI w)), (2, .int sg), (3, .int ow), (4, .int (nI cl))]) hx hb dX3_wall_21 hl (by decide) rfl (fun ls hl => ?_)
      refine lv_iload_n hx hb dX3_wall_23 rfl (lv_at hl 2 rfl) ?_
      refine lv_iconstN hx hb 4 dX3_wall_24 (by decide) ?_
      refine lv_bipushN hx hb 16 dX3_wall_25 (by decide) ?_
      refine ro_S (As := [.int (nI w), .int (nI 4), .int (nI 16)]) (rest := []) (v := bI (isInS (nI w) (nI 4) (nI 16))) hx hb hml hown hC hS hAb (mX3_isWithin l (nI w) (nI 4) (nI 16) ) kS_X3_32 ⟨rfl, rfl⟩ ⟨Nat.le_of_ble_eq_true rfl, Nat.le_of_ble_eq_true rfl⟩ rfl hl (Nat.le_of_ble_eq_true rfl) ⟨show _ ≤ (3 : Nat) by omega, show _ ≤ (226 : Nat) by omega⟩ dX3_wall_27 ?_
      refine lv_bif_eq (tgt := 57) hx hb dX3_wall_30 (by decide) (fun c_30 => ?_) (fun c_30 => ?_)
      · skip
        exact absurd (c_30.symm.trans (isIn_1 hw hw2 (by decide))) (by decide)
      · skip
        refine lv_iload_n hx hb dX3_wall_33 rfl (lv_at hl 3 rfl) ?_
        refine lv_iconstN hx hb 1 dX3_wall_34 (by decide) ?_
        refine lv_bipushN hx hb 9 dX3_wall_35 (by decide) ?_
        refine ro_S (As := [.int sg, .int (nI 1), .int (nI 9)]) (rest := []) (v := bI (isInS sg (nI 1) (nI 9))) hx hb hml hown hC hS hAb (mX3_isWithin l sg (nI 1) (nI 9) ) kS_X3_32 ⟨rfl, rfl⟩ ⟨Nat.le_of_ble_eq_true rfl, Nat.le_of_ble_eq_true rfl⟩ rfl hl (Nat.le_of_ble_eq_true rfl) ⟨show _ ≤ (3 : Nat) by omega, show _ ≤ (226 : Nat) by omega⟩ dX3_wall_37 ?_
        refine lv_bif_eq (tgt := 57) hx hb dX3_wall_40 (by decide) (fun c_40 => ?_) (fun c_40 => ?_)
        · skip
          exact absurd (c_40.symm.trans hg2) (by decide)
        · skip
          refine lv_iload_n hx hb dX3_wall_43 rfl (lv_at hl 4 rfl) ?_
          refine lv_iconstN hx hb 0 dX3_wall_44 (by decide) ?_
          refine lv_iconstN hx hb 3 dX3_wall_45 (by decide) ?_
          refine ro_S (As := [.int ow, .int (nI 0), .int (nI 3)]) (rest := []) (v := bI (isInS ow (nI 0) (nI 3))) hx hb hml hown hC hS hAb (mX3_isWithin l ow (nI 0) (nI 3) ) kS_X3_32 ⟨rfl, rfl⟩ ⟨Nat.le_of_ble_eq_true rfl, Nat.le_of_ble_eq_true rfl⟩ rfl hl (Nat.le_of_ble_eq_true rfl) ⟨show _ ≤ (3 : Nat) by omega, show _ ≤ (226 : Nat) by omega⟩ dX3_wall_46 ?_
          refine lv_bif_eq (tgt := 57) hx hb dX3_wall_49 (by decide) (fun c_49 => ?_) (fun c_49 => ?_)
          · skip
            exact absurd (c_49.symm.trans ho) (by decide)
          · skip
            refine lv_iload hx hb dX3_wall_52 (lv_at hl 0 rfl) ?_
            refine lv_ifN_ne (tgt := 67) hx hb dX3_wall_54 (by decide) (by omega) (fun c_54 => ?_) (fun c_54 => ?_)
            · skip
              refine lv_aload_n hx hb dX3_wall_67 rfl (lv_at hl 1 rfl) ?_
              refine pi_get hx hb hC hown hP fL_X3_10 0 0 cX_0 (v := .ref (ad 1 0)) rfl dX3_wall_68 ?_
              refine ro_V (As := []) (h0 := ad 1 0) (rest := []) (v := nI (c.R 10 0)) hx hb hml hown hC hS hAb (mJ_size l hP 0 (cX_1 (by decide))) kV_X3_43 ⟨rfl, rfl⟩ ⟨Nat.le_of_ble_eq_true rfl, Nat.le_of_ble_eq_true rfl⟩ (hP.recv hC (cX_1 (i := 0) (by decide)) rfl) rfl hl (Nat.le_of_ble_eq_true rfl) ⟨show _ ≤ (3 : Nat) by omega, show _ ≤ (226 : Nat) by omega⟩ dX3_wall_71 ?_
              have g_4 := wf.sw
              have g_5 := wf.nw
              refine lv_istore (lv' := [(6, .int (nI (c.R 10 0))), (5, .int (nI 1)), (0, .ref (ad 0 0)), (1, .int (nI w)), (2, .int sg), (3, .int ow), (4, .int (nI cl))]) hx hb dX3_wall_74 hl (by decide) rfl (fun ls hl => ?_)
              refine lv_iload hx hb dX3_wall_76 (lv_at hl 0 rfl) ?_
              refine lv_bipushN hx hb 6 dX3_wall_78 (by decide) ?_
              refine lv_icmpN_lt (tgt := 93) hx hb dX3_wall_80 (by decide) (by omega) (by omega) (fun c_80 => ?_) (fun c_80 => ?_)
              · skip
                refine lv_aload_n hx hb dX3_wall_93 rfl (lv_at hl 2 rfl) ?_
                refine pi_get hx hb hC hown hP fL_X3_10 0 0 cX_0 (v := .ref (ad 1 0)) rfl dX3_wall_94 ?_
                refine pi_newC (ci := 4) (fs := [.int (nI 0), .int (nI 0), .int (nI 0), .int (nI 0), .int (nI 0), .null, .int (nI 0), .int (nI 0), .int (nI 0), .int (nI 0)]) (C := RX2) (T := TX2) (N := 10) hx hb hC hown hP hS hA hN wU_X2 tyX2 tyX2_ok wCl_X3_52 wIa_X2 wIn_X2 rfl (fun j hj => by match j, hj with | 0, _ => rfl | 1, _ => rfl | 2, _ => rfl | 3, _ => rfl | 4, _ => rfl | 5, _ => rfl | 6, _ => rfl | 7, _ => rfl | 8, _ => rfl | 9, _ => rfl) 3 (c.R 11 0) ⟨show 0 + 1 ≤ (3 : Nat) by omega, show 0 + 10 ≤ (226 : Nat) by omega⟩ dX3_wall_97 (fun q H hqL hAq hQ hS => ?_)
                obtain ⟨L, hQ, hX, hA⟩ := pX_new hX hQ hA hAq hAb (if_neg (Nat.lt_irrefl _))
                obtain ⟨hP, hly, hLb, wfx⟩ := id hX
                refine lv_dup hx hb dX3_wall_100 rfl ?_
                refine lv_iload hx hb dX3_wall_101 (lv_at hl 0 rfl) ?_
                refine lv_iload_n hx hb dX3_wall_103 rfl (lv_at hl 3 rfl) ?_
                refine lv_iload_n hx hb dX3_wall_104 rfl (lv_at hl 4 rfl) ?_
                refine lv_iload_n hx hb dX3_wall_105 rfl (lv_at hl 5 rfl) ?_
                refine lv_iload hx hb dX3_wall_106 (lv_at hl 6 rfl) ?_
                have en : c.R 10 0 = c.R 11 0 := by omega
                have hM := mX2_init l (c.R 11 0) hQ (c.R 10 0) w cl sg ow (by omega)
                rw [up2_same] at hM
                rw [en] at hM
                rw [en]
                refine mu_I (As := [.int (nI (c.R 11 0)), .int (nI w), .int sg, .int ow, .int (nI cl)]) (h0 := q) (rest := [.ref q, .ref (ad 1 0)]) hx hb hml hown hC hS hAb hM (fun z h => h.elim (hA z) (fun h => hN z (Nat.le_trans hS.1 h))) kI_X3_54 ⟨rfl, rfl⟩ ⟨Nat.le_of_ble_eq_true rfl, Nat.le_of_ble_eq_true rfl⟩ rfl hl (Nat.le_of_ble_eq_true rfl) ⟨show 1 + 1 ≤ (3 : Nat) by omega, show 10 + 16 ≤ (226 : Nat) by omega⟩ dX3_wall_108 (fun H locs hB hS9 hz hk => ?_)
                obtain ⟨q2, hq2, -, hB⟩ := hB
                have hA := fun z (h : z ∈ L ++ [q2]) => (List.mem_append.mp h).elim (hA z) (fun h => by rw [List.mem_singleton.mp h]; exact hN q2 (Nat.le_trans hS.1 hq2))
                have hS := hS9
                obtain ⟨L, ad, hX, hA, e1, e2⟩ := pX_W hX hB hA hAb (WF_mkW wfx (by omega) ⟨by omega, by omega⟩ (by omega) hg)
                have e1 : ad 3 (c.R 11 0) = q := e1
                have e00 := (e2 0 0 (by omega) (by omega)).trans e00
                have hX : PX E ((mkW c w cl sg ow).R, (mkW c w cl sg ow).I, c.B, c.Wr, (mkW c w cl sg ow).sh) ly L ad H := hX
                obtain ⟨hP, hly, hLb, wfx⟩ := id hX
                have hLb := fun z h => hAb z (hA z h)
                have hn_6 : c.R 11 0 < (mkW c w cl sg ow).R 11 0 := by rw [show (mkW c w cl sg ow).R 11 0 = c.R 11 0 + 1 by simp [mkW_R, up2]]; exact Nat.lt_succ_self _
                have hl : lv_has ls 7 [(6, .int (nI (c.R 10 0))), (5, .int (nI 1)), (0, .ref (ad 0 0)), (1, .int (nI w)), (2, .int sg), (3, .int ow), (4, .int (nI cl))] := by rw [e2 0 0 (by omega) (by omega)]; exact hl
                refine W.eq (g2 := F0 m 111 ls [.ref (ad 3 (c.R 11 0)), .ref (ad 1 0)]) (by rw [e1, e2 1 0 (by omega) (by omega)]) ?_
                have hn9 : c.R 11 0 = c.R 10 0 := by omega
                have hM := mJ_add1 l hP hLb 0 (by decide) (n := c.R 10 0) (p := ly.2 0) (md := ly.1 0) (cX_1 (by decide)) (fun h9 => cX_2 (by decide) h9) (hly 0 (by decide)).1 (by omega) (hly 0 (by decide)).2.1 (hly 0 (by decide)).2.2 rfl (ci := 4) (C := RX2) rfl wCa_X2_O (fun j hj => ⟨_, cX_3 (Nat.lt_of_le_of_lt hj (show c.R 10 0 < (mkW c w cl sg ow).R 11 0 by omega))⟩)
                rw [hn9]
                refine mu_V (As := [.ref (ad 3 (c.R 10 0))]) (h0 := ad 1 0) (rest := []) (v := bI true) hx hb hml hown hC hS hAb hM (fun q h => h.elim (hA q) (fun z => hN q (Nat.le_trans hS.1 z))) kV_X3_57 ⟨rfl, rfl⟩ ⟨Nat.le_of_ble_eq_true rfl, Nat.le_of_ble_eq_true rfl⟩ (hP.recv hC (cX_1 (i := 0) (by decide)) rfl) rfl hl (Nat.le_of_ble_eq_true rfl) ⟨show 2 + 1 ≤ (3 : Nat) by omega, show 26 + 200 ≤ (226 : Nat) by omega⟩ dX3_wall_111 (fun H locs hB hS9 hz hk => ?_)
                obtain ⟨L, ly, ad, hX, hA, e2⟩ := lX_add (by decide) hX hB rfl (show c.R 10 0 < (mkW c w cl sg ow).R 11 0 by omega) hA (fun z h => hN z (Nat.le_trans hS.1 h)) hAb
                have hS := hS9
                have e00 := (e2 0 0 (by omega)).trans e00
                have hX : PX E (up2 ((mkW c w cl sg ow).R) 10 0 (c.R 10 0 + 1), (mkW c w cl sg ow).I, c.B, c.Wr, (mkW c w cl sg ow).sh) ly L ad H := hX
                obtain ⟨hP, hly, hLb, wfx⟩ := id hX
                have hl : lv_has ls 7 [(6, .int (nI (c.R 10 0))), (5, .int (nI 1)), (0, .ref (ad 0 0)), (1, .int (nI w)), (2, .int sg), (3, .int ow), (4, .int (nI cl))] := by rw [e2 0 0 (by omega)]; exact hl
                refine W.eq (g2 := F0 m 114 ls [.int (bI true)]) (rfl) ?_
                refine lv_pop hx hb dX3_wall_114 rfl ?_
                refine lv_iload hx hb dX3_wall_115 (lv_at hl 0 rfl) ?_
                exact mu_iret (x := nI (c.R 10 0)) hx hb hr hlocks hS (⟨L, ly, ad, hX, e00, hA⟩) (by first | rfl | (simp [c_2, c_13, c_30, c_40, c_49, c_80]; done) | (simp [c_2, c_13, c_30, c_40, c_49, c_80]; omega) | (simp_all [c_2, c_13, c_30, c_40, c_49, c_80]; done)) dX3_wall_117
              · skip
                exact absurd hs (by omega)
            · skip
              exact absurd c_54 (by decide)
set_option maxHeartbeats 4000000 in
set_option maxRecDepth 100000 in
theorem mX3_hand_g (l : Launch) {E : En} {c : Cy} {ly : Ly} {L : List Nat} {ad : Nat → Nat → Nat} {H0 : Heap} (hX : PX E c ly L ad H0) (sp : Nat) (cr sl rd : Int32) (hcr : isInS cr (nI 0) (nI 3) = true) (hp : 1 ≤ sp) (hp2 : sp ≤ 9) (hl2 : isInS sl (nI 0) (nI 9) = true) (hd : isInS rd (nI 0) (nI 9) = true) (hs : c.R 10 1 < 8) (heq : c.R 10 1 = c.R 11 1) : MuI l yX3_hand cX3_hand 6 .int (rmk 7 3 226 201) [.ref (ad 0 0), .int cr, .int (nI sp), .int sl, .int rd] E H0 (nI (c.R 10 1)) (fun H1 => ∃ (L2 : List Nat) (ly2 : Ly) (ad2 : Nat → Nat → Nat), PX E (lsC (mkH c sp cr sl rd) 1) ly2 L2 ad2 H1 ∧ ad2 0 0 = ad 0 0 ∧ (∀ q, q ∈ L2 → q ∈ L ∨ H0.size ≤ q)) (cA L H0) 3 226 := by
  obtain ⟨hP, hly, hLb, wf⟩ := id hX
  have wfx := wf
  refine ro_of (by decide) (Nat.le_of_ble_eq_true rfl) ?_
  intro p e s m below meth co ls hx hb hr hml hown hlocks hnm hC hU hl
  have hS : va_S (cA L H0) s.heap H0 [] := by rw [hU]; exact va_S.rf
  have hA : ∀ q, q ∈ L → cA L H0 q := fun q h => Or.inl h
  have hN : ∀ q, s.heap.size ≤ q → cA L H0 q := fun q h => Or.inr (by rw [← hU]; exact h)
  have hAb : ∀ q, cA L H0 q → bA E q := fun q h => h.elim (hLb q) (fun z => Nat.le_trans hC.2.2.2.1 (by rw [hU]; exact z))
  have hl : lv_has ls 6 [(0, .ref (ad 0 0)), (1, .int cr), (2, .int (nI sp)), (3, .int sl), (4, .int rd)] := hl
  have e00 : ad 0 0 = ad 0 0 := rfl
  refine lv_iload_n hx hb dX3_hand_0 rfl (lv_at hl 1 rfl) ?_
  refine lv_iconstN hx hb 0 dX3_hand_1 (by decide) ?_
  refine lv_iconstN hx hb 3 dX3_hand_2 (by decide) ?_
  refine ro_S (As := [.int cr, .int (nI 0), .int (nI 3)]) (rest := []) (v := bI (isInS cr (nI 0) (nI 3))) hx hb hml hown hC hS hAb (mX3_isWithin l cr (nI 0) (nI 3) ) kS_X3_32 ⟨rfl, rfl⟩ ⟨Nat.le_of_ble_eq_true rfl, Nat.le_of_ble_eq_true rfl⟩ rfl hl (Nat.le_of_ble_eq_true rfl) ⟨show _ ≤ (3 : Nat) by omega, show _ ≤ (226 : Nat) by omega⟩ dX3_hand_3 ?_
  refine lv_bif_eq (tgt := 40) hx hb dX3_hand_6 (by decide) (fun c_6 => ?_) (fun c_6 => ?_)
  · skip
    exact absurd (c_6.symm.trans hcr) (by decide)
  · skip
    refine lv_iload_n hx hb dX3_hand_9 rfl (lv_at hl 2 rfl) ?_
    refine lv_iconstN hx hb 1 dX3_hand_10 (by decide) ?_
    refine lv_bipushN hx hb 9 dX3_hand_11 (by decide) ?_
    refine ro_S (As := [.int (nI sp), .int (nI 1), .int (nI 9)]) (rest := []) (v := bI (isInS (nI sp) (nI 1) (nI 9))) hx hb hml hown hC hS hAb (mX3_isWithin l (nI sp) (nI 1) (nI 9) ) kS_X3_32 ⟨rfl, rfl⟩ ⟨Nat.le_of_ble_eq_true rfl, Nat.le_of_ble_eq_true rfl⟩ rfl hl (Nat.le_of_ble_eq_true rfl) ⟨show _ ≤ (3 : Nat) by omega, show _ ≤ (226 : Nat) by omega⟩ dX3_hand_13 ?_
    refine lv_bif_eq (tgt := 40) hx hb dX3_hand_16 (by decide) (fun c_16 => ?_) (fun c_16 => ?_)
    · skip
      exact absurd (c_16.symm.trans (isIn_1 hp hp2 (by decide))) (by decide)
    · skip
      refine lv_iload_n hx hb dX3_hand_19 rfl (lv_at hl 3 rfl) ?_
      refine lv_iconstN hx hb 0 dX3_hand_20 (by decide) ?_
      refine lv_bipushN hx hb 9 dX3_hand_21 (by decide) ?_
      refine ro_S (As := [.int sl, .int (nI 0), .int (nI 9)]) (rest := []) (v := bI (isInS sl (nI 0) (nI 9))) hx hb hml hown hC hS hAb (mX3_isWithin l sl (nI 0) (nI 9) ) kS_X3_32 ⟨rfl, rfl⟩ ⟨Nat.le_of_ble_eq_true rfl, Nat.le_of_ble_eq_true rfl⟩ rfl hl (Nat.le_of_ble_eq_true rfl) ⟨show _ ≤ (3 : Nat) by omega, show _ ≤ (226 : Nat) by omega⟩ dX3_hand_23 ?_
      refine lv_bif_eq (tgt := 40) hx hb dX3_hand_26 (by decide) (fun c_26 => ?_) (fun c_26 => ?_)
      · skip
        exact absurd (c_26.symm.trans hl2) (by decide)
      · skip
        refine lv_iload hx hb dX3_hand_29 (lv_at hl 4 rfl) ?_
        refine lv_iconstN hx hb 0 dX3_hand_31 (by decide) ?_
        refine lv_bipushN hx hb 9 dX3_hand_32 (by decide) ?_
        refine ro_S (As := [.int rd, .int (nI 0), .int (nI 9)]) (rest := []) (v := bI (isInS rd (nI 0) (nI 9))) hx hb hml hown hC hS hAb (mX3_isWithin l rd (nI 0) (nI 9) ) kS_X3_32 ⟨rfl, rfl⟩ ⟨Nat.le_of_ble_eq_true rfl, Nat.le_of_ble_eq_true rfl⟩ rfl hl (Nat.le_of_ble_eq_true rfl) ⟨show _ ≤ (3 : Nat) by omega, show _ ≤ (226 : Nat) by omega⟩ dX3_hand_34 ?_
        refine lv_bif_ne (tgt := 50) hx hb dX3_hand_37 (by decide) (fun c_37 => ?_) (fun c_37 => ?_)
        · skip
          refine lv_aload_n hx hb dX3_hand_50 rfl (lv_at hl 0 rfl) ?_
          refine pi_get hx hb hC hown hP fL_X3_16 0 0 cX_0 (v := .ref (ad 1 1)) rfl dX3_hand_51 ?_
          refine ro_V (As := []) (h0 := ad 1 1) (rest := []) (v := nI (c.R 10 1)) hx hb hml hown hC hS hAb (mJ_size l hP 1 (cX_1 (by decide))) kV_X3_43 ⟨rfl, rfl⟩ ⟨Nat.le_of_ble_eq_true rfl, Nat.le_of_ble_eq_true rfl⟩ (hP.recv hC (cX_1 (i := 1) (by decide)) rfl) rfl hl (Nat.le_of_ble_eq_true rfl) ⟨show _ ≤ (3 : Nat) by omega, show _ ≤ (226 : Nat) by omega⟩ dX3_hand_54 ?_
          have g_1 := wf.sh'
          have g_2 := wf.nh
          refine lv_istore (lv' := [(5, .int (nI (c.R 10 1))), (0, .ref (ad 0 0)), (1, .int cr), (2, .int (nI sp)), (3, .int sl), (4, .int rd)]) hx hb dX3_hand_57 hl (by decide) rfl (fun ls hl => ?_)
          refine lv_iload hx hb dX3_hand_59 (lv_at hl 0 rfl) ?_
          refine lv_bipushN hx hb 8 dX3_hand_61 (by decide) ?_
          refine lv_icmpN_lt (tgt := 76) hx hb dX3_hand_63 (by decide) (by omega) (by omega) (fun c_63 => ?_) (fun c_63 => ?_)
          · skip
            refine lv_aload_n hx hb dX3_hand_76 rfl (lv_at hl 1 rfl) ?_
            refine pi_get hx hb hC hown hP fL_X3_16 0 0 cX_0 (v := .ref (ad 1 1)) rfl dX3_hand_77 ?_
            refine pi_newC (ci := 2) (fs := [.int (nI 0), .int (nI 0), .int (nI 0), .int (nI 0), .int (nI 0), .null, .int (nI 0), .int (nI 0), .int (nI 0), .int (nI 0), .int (nI 0)]) (C := RX0) (T := TX0) (N := 11) hx hb hC hown hP hS hA hN wU_X0 tyX0 tyX0_ok wCl_X3_65 wIa_X0 wIn_X0 rfl (fun j hj => by match j, hj with | 0, _ => rfl | 1, _ => rfl | 2, _ => rfl | 3, _ => rfl | 4, _ => rfl | 5, _ => rfl | 6, _ => rfl | 7, _ => rfl | 8, _ => rfl | 9, _ => rfl | 10, _ => rfl) 5 (c.R 11 1) ⟨show 0 + 1 ≤ (3 : Nat) by omega, show 0 + 11 ≤ (226 : Nat) by omega⟩ dX3_hand_80 (fun q H hqL hAq hQ hS => ?_)
            obtain ⟨L, hQ, hX, hA⟩ := pX_new hX hQ hA hAq hAb (if_neg (Nat.lt_irrefl _))
            obtain ⟨hP, hly, hLb, wfx⟩ := id hX
            refine lv_dup hx hb dX3_hand_83 rfl ?_
            refine lv_iload hx hb dX3_hand_84 (lv_at hl 0 rfl) ?_
            refine lv_iload_n hx hb dX3_hand_86 rfl (lv_at hl 2 rfl) ?_
            refine lv_iload_n hx hb dX3_hand_87 rfl (lv_at hl 3 rfl) ?_
            refine lv_iload_n hx hb dX3_hand_88 rfl (lv_at hl 4 rfl) ?_
            refine lv_iload hx hb dX3_hand_89 (lv_at hl 5 rfl) ?_
            have en : c.R 10 1 = c.R 11 1 := by omega
            have hM := mX0_init l (c.R 11 1) hQ (c.R 10 1) sp cr sl rd
            rw [up2_same] at hM
            rw [en] at hM
            rw [en]
            refine mu_I (As := [.int (nI (c.R 11 1)), .int cr, .int (nI sp), .int sl, .int rd]) (h0 := q) (rest := [.ref q, .ref (ad 1 1)]) hx hb hml hown hC hS hAb hM (fun z h => h.elim (hA z) (fun h => hN z (Nat.le_trans hS.1 h))) kI_X3_67 ⟨rfl, rfl⟩ ⟨Nat.le_of_ble_eq_true rfl, Nat.le_of_ble_eq_true rfl⟩ rfl hl (Nat.le_of_ble_eq_true rfl) ⟨show 1 + 1 ≤ (3 : Nat) by omega, show 11 + 8 ≤ (226 : Nat) by omega⟩ dX3_hand_91 (fun H locs hB hS9 hz hk => ?_)
            obtain ⟨q2, hq2, -, hB⟩ := hB
            have hA := fun z (h : z ∈ L ++ [q2]) => (List.mem_append.mp h).elim (hA z) (fun h => by rw [List.mem_singleton.mp h]; exact hN q2 (Nat.le_trans hS.1 hq2))
            have hS := hS9
            obtain ⟨L, ad, hX, hA, e1, e2⟩ := pX_H hX hB hA hAb (WF_mkH wfx (by omega) ⟨by omega, by omega⟩)
            have e1 : ad 5 (c.R 11 1) = q := e1
            have e00 := (e2 0 0 (by omega) (by omega)).trans e00
            have hX : PX E ((mkH c sp cr sl rd).R, (mkH c sp cr sl rd).I, (mkH c sp cr sl rd).B, (mkH c sp cr sl rd).Wr, c.sh) ly L ad H := hX
            obtain ⟨hP, hly, hLb, wfx⟩ := id hX
            have hLb := fun z h => hAb z (hA z h)
            have hn_3 : c.R 11 1 < (mkH c sp cr sl rd).R 11 1 := by rw [show (mkH c sp cr sl rd).R 11 1 = c.R 11 1 + 1 by simp [mkH_R, up2]]; exact Nat.lt_succ_self _
            have hl : lv_has ls 6 [(5, .int (nI (c.R 10 1))), (0, .ref (ad 0 0)), (1, .int cr), (2, .int (nI sp)), (3, .int sl), (4, .int rd)] := by rw [e2 0 0 (by omega) (by omega)]; exact hl
            refine W.eq (g2 := F0 m 94 ls [.ref (ad 5 (c.R 11 1)), .ref (ad 1 1)]) (by rw [e1, e2 1 1 (by omega) (by omega)]) ?_
            have hn9 : c.R 11 1 = c.R 10 1 := by omega
            have hM := mJ_add1 l hP hLb 1 (by decide) (n := c.R 10 1) (p := ly.2 1) (md := ly.1 1) (cX_1 (by decide)) (fun h9 => cX_2 (by decide) h9) (hly 1 (by decide)).1 (by omega) (hly 1 (by decide)).2.1 (hly 1 (by decide)).2.2 rfl (ci := 2) (C := RX0) rfl wCa_X0_O (fun j hj => ⟨_, cX_5 (Nat.lt_of_le_of_lt hj (show c.R 10 1 < (mkH c sp cr sl rd).R 11 1 by omega))⟩)
            rw [hn9]
            refine mu_V (As := [.ref (ad 5 (c.R 10 1))]) (h0 := ad 1 1) (rest := []) (v := bI true) hx hb hml hown hC hS hAb hM (fun q h => h.elim (hA q) (fun z => hN q (Nat.le_trans hS.1 z))) kV_X3_57 ⟨rfl, rfl⟩ ⟨Nat.le_of_ble_eq_true rfl, Nat.le_of_ble_eq_true rfl⟩ (hP.recv hC (cX_1 (i := 1) (by decide)) rfl) rfl hl (Nat.le_of_ble_eq_true rfl) ⟨show 2 + 1 ≤ (3 : Nat) by omega, show 19 + 200 ≤ (226 : Nat) by omega⟩ dX3_hand_94 (fun H locs hB hS9 hz hk => ?_)
            obtain ⟨L, ly, ad, hX, hA, e2⟩ := lX_add (by decide) hX hB rfl (show c.R 10 1 < (mkH c sp cr sl rd).R 11 1 by omega) hA (fun z h => hN z (Nat.le_trans hS.1 h)) hAb
            have hS := hS9
            have e00 := (e2 0 0 (by omega)).trans e00
            have hX : PX E (up2 ((mkH c sp cr sl rd).R) 10 1 (c.R 10 1 + 1), (mkH c sp cr sl rd).I, (mkH c sp cr sl rd).B, (mkH c sp cr sl rd).Wr, c.sh) ly L ad H := hX
            obtain ⟨hP, hly, hLb, wfx⟩ := id hX
            have hl : lv_has ls 6 [(5, .int (nI (c.R 10 1))), (0, .ref (ad 0 0)), (1, .int cr), (2, .int (nI sp)), (3, .int sl), (4, .int rd)] := by rw [e2 0 0 (by omega)]; exact hl
            refine W.eq (g2 := F0 m 97 ls [.int (bI true)]) (rfl) ?_
            refine lv_pop hx hb dX3_hand_97 rfl ?_
            refine lv_iload hx hb dX3_hand_98 (lv_at hl 0 rfl) ?_
            refine W.widen (k := 3) (n := 226) (by omega) (by omega) ?_
            exact mu_iret (x := nI (c.R 10 1)) hx hb hr hlocks hS (⟨L, ly, ad, hX, e00, hA⟩) (by first | rfl | (simp [c_6, c_16, c_26, c_37, c_63]; done) | (simp [c_6, c_16, c_26, c_37, c_63]; omega) | (simp_all [c_6, c_16, c_26, c_37, c_63]; done)) dX3_hand_100
          · skip
            exact absurd hs (by omega)
        · skip
          exact absurd (c_37.symm.trans hd) (by decide)






