set_option maxHeartbeats 4000000 in
set_option maxRecDepth 100000 in
theorem mX3_bestFrom_g (l : Launch) {E : En} {c : Cy} {ly : Ly} {L : List Nat} {ad : Nat → Nat → Nat} {H : Heap} (hX : PX E c ly L ad H) (h i u kd : Nat) (hh : h < c.R 10 1) (hi : i < c.R 10 0) (hu1 : 1 ≤ u) (hu : u ≤ 16) (hkd : kd < 4) : RoI l yX3_bestFrom cX3_bestFrom 14 .int (rmk 5 0 0 120) [.ref (ad 0 0), .int (nI h), .int (nI i), .int (nI u), .int (nI kd)] E H (bfS c h i u kd) := by
  obtain ⟨hP, hly, hLb, wf⟩ := id hX
  refine ro_of (by decide) (Nat.le_of_ble_eq_true rfl) ?_
  intro p e s m below meth co ls hx hb hr hml hown hlocks hnm hC hU hl
  have hS : va_S noA s.heap H [] := by rw [hU]; exact va_S.rf
  have hAb : ∀ q, noA q → bA E q := fun _ h => h.elim
  have hl : lv_has ls 14 [(0, .ref (ad 0 0)), (1, .int (nI h)), (2, .int (nI i)), (3, .int (nI u)), (4, .int (nI kd))] := hl
  have hi2 : i < c.R 11 0 := by have := wf.sw; omega
  have gw := wf.wd hi2
  refine lv_aload_n hx hb dX3_bestFrom_0 rfl (lv_at hl 0 rfl) ?_
  refine lv_iload_n hx hb dX3_bestFrom_1 rfl (lv_at hl 1 rfl) ?_
  refine ro_VR (As := [.int (nI h)]) (h0 := ad 0 0) (rest := []) (v := some (ad 5 h)) hx hb hml hown hC hS hAb (mX3_handAt_g l hX h (by first | assumption | omega | (simp only [decide_eq_false_iff_not, decide_eq_true_eq] at *; omega))) kV_X3_92 ⟨rfl, rfl⟩ ⟨Nat.le_of_ble_eq_true rfl, Nat.le_of_ble_eq_true rfl⟩ (hP.recv hC cX_0 rfl) rfl hl (Nat.le_of_ble_eq_true rfl) ⟨Nat.zero_le _, Nat.zero_le _⟩ dX3_bestFrom_2 ?_
  have hg_1 : h < c.R 11 1 := by have := wf.sw; have := wf.sh'; have := wf.sl; omega
  refine lv_astore (lv' := [(5, .ref (ad 5 h)), (0, .ref (ad 0 0)), (1, .int (nI h)), (2, .int (nI i)), (3, .int (nI u)), (4, .int (nI kd))]) hx hb dX3_bestFrom_5 hl (by decide) rfl (fun ls hl => ?_)
  refine lv_aload_n hx hb dX3_bestFrom_7 rfl (lv_at hl 1 rfl) ?_
  refine lv_iload_n hx hb dX3_bestFrom_8 rfl (lv_at hl 3 rfl) ?_
  refine ro_VR (As := [.int (nI i)]) (h0 := ad 0 0) (rest := []) (v := some (ad 3 i)) hx hb hml hown hC hS hAb (mX3_wallAt_g l hX i (by first | assumption | omega | (simp only [decide_eq_false_iff_not, decide_eq_true_eq] at *; omega))) kV_X3_68 ⟨rfl, rfl⟩ ⟨Nat.le_of_ble_eq_true rfl, Nat.le_of_ble_eq_true rfl⟩ (hP.recv hC cX_0 rfl) rfl hl (Nat.le_of_ble_eq_true rfl) ⟨Nat.zero_le _, Nat.zero_le _⟩ dX3_bestFrom_9 ?_
  have hg_2 : i < c.R 11 0 := by have := wf.sw; have := wf.sh'; have := wf.sl; omega
  refine lv_astore (lv' := [(6, .ref (ad 3 i)), (5, .ref (ad 5 h)), (0, .ref (ad 0 0)), (1, .int (nI h)), (2, .int (nI i)), (3, .int (nI u)), (4, .int (nI kd))]) hx hb dX3_bestFrom_12 hl (by decide) rfl (fun ls hl => ?_)
  refine lv_iload_n hx hb dX3_bestFrom_14 rfl (lv_at hl 5 rfl) ?_
  refine lv_iconstN hx hb 1 dX3_bestFrom_15 (by decide) ?_
  refine lv_bipushN hx hb 16 dX3_bestFrom_16 (by decide) ?_
  refine ro_S (As := [.int (nI u), .int (nI 1), .int (nI 16)]) (rest := []) (v := bI (isInS (nI u) (nI 1) (nI 16))) hx hb hml hown hC hS hAb (mX3_isWithin l (nI u) (nI 1) (nI 16) ) kS_X3_32 ⟨rfl, rfl⟩ ⟨Nat.le_of_ble_eq_true rfl, Nat.le_of_ble_eq_true rfl⟩ rfl hl (Nat.le_of_ble_eq_true rfl) ⟨Nat.zero_le _, Nat.zero_le _⟩ dX3_bestFrom_18 ?_
  refine lv_bif_eq (tgt := 32) hx hb dX3_bestFrom_21 (by decide) (fun c_21 => ?_) (fun c_21 => ?_)
  · skip
    exact absurd (c_21.symm.trans (isIn_1 hu1 hu (by decide))) (by decide)
  · skip
    refine lv_iload hx hb dX3_bestFrom_24 (lv_at hl 6 rfl) ?_
    refine ro_S (As := [.int (nI kd)]) (rest := []) (v := bI (isInS (nI kd) (nI 0) (nI 3))) hx hb hml hown hC hS hAb (mX3_isKind l (nI kd) ) kS_X3_100 ⟨rfl, rfl⟩ ⟨Nat.le_of_ble_eq_true rfl, Nat.le_of_ble_eq_true rfl⟩ rfl hl (Nat.le_of_ble_eq_true rfl) ⟨Nat.zero_le _, Nat.zero_le _⟩ dX3_bestFrom_26 ?_
    refine lv_bif_ne (tgt := 42) hx hb dX3_bestFrom_29 (by decide) (fun c_29 => ?_) (fun c_29 => ?_)
    · skip
      refine lv_iconst (v := -1) hx hb dX3_bestFrom_42 (by decide) ?_
      refine lv_istore (lv' := [(7, .int (-1)), (6, .ref (ad 3 i)), (5, .ref (ad 5 h)), (0, .ref (ad 0 0)), (1, .int (nI h)), (2, .int (nI i)), (3, .int (nI u)), (4, .int (nI kd))]) hx hb dX3_bestFrom_43 hl (by decide) rfl (fun ls hl => ?_)
      refine lv_iconstN hx hb 0 dX3_bestFrom_45 (by decide) ?_
      refine lv_istore (lv' := [(8, .int (nI 0)), (7, .int (-1)), (6, .ref (ad 3 i)), (5, .ref (ad 5 h)), (0, .ref (ad 0 0)), (1, .int (nI h)), (2, .int (nI i)), (3, .int (nI u)), (4, .int (nI kd))]) hx hb dX3_bestFrom_46 hl (by decide) rfl (fun ls hl => ?_)
      refine lv_iconstN hx hb 0 dX3_bestFrom_48 (by decide) ?_
      refine lv_istore (lv' := [(9, .int (nI 0)), (8, .int (nI 0)), (7, .int (-1)), (6, .ref (ad 3 i)), (5, .ref (ad 5 h)), (0, .ref (ad 0 0)), (1, .int (nI h)), (2, .int (nI i)), (3, .int (nI u)), (4, .int (nI kd))]) hx hb dX3_bestFrom_49 hl (by decide) rfl (fun ls hl => ?_)
      refine lv_iconstN hx hb 0 dX3_bestFrom_51 (by decide) ?_
      refine lv_istore (lv' := [(10, .int (nI 0)), (9, .int (nI 0)), (8, .int (nI 0)), (7, .int (-1)), (6, .ref (ad 3 i)), (5, .ref (ad 5 h)), (0, .ref (ad 0 0)), (1, .int (nI h)), (2, .int (nI i)), (3, .int (nI u)), (4, .int (nI kd))]) hx hb dX3_bestFrom_52 hl (by decide) rfl (fun ls hl => ?_)
      have lp54 : ∀ fu : Nat, ∀ (k : Nat) (b2 m2 g2 : Int32), k ≤ c.R 1 i + 1 - u → bfI c h i u kd k b2 m2 g2 → c.R 1 i + 1 - u - k < fu → ∀ ls : Array Slot, lv_has ls 14 [(0, .ref (ad 0 0)), (3, .int (nI u)), (4, .int (nI kd)), (5, .ref (ad 5 h)), (6, .ref (ad 3 i)), (7, .int b2), (8, .int m2), (9, .int g2), (10, .int (nI k))] → W p l e (rmk 5 0 0 120) s m ([.ref (ad 0 0), .int (nI h), .int (nI i), .int (nI u), .int (nI kd)] : List Value).toArray below meth co H [] 0 0 (MQ below (QiR (bfS c h i u kd) H) ([.ref (ad 0 0), .int (nI h), .int (nI i), .int (nI u), .int (nI kd)] : List Value).toArray s 0 0 noA) (F0 m 54 ls []) := by
        intro fu
        induction fu with
        | zero => intro k b2 m2 g2 hk hq hfu; exact absurd hfu (Nat.not_lt_zero _)
        | succ fu ih54 =>
          intro k b2 m2 g2 hk hq hfu ls hl
          refine lv_iload hx hb dX3_bestFrom_54 (lv_at hl 8 rfl) ?_
          refine lv_iload_n hx hb dX3_bestFrom_56 rfl (lv_at hl 1 rfl) ?_
          refine lv_iaddN hx hb dX3_bestFrom_57 ?_
          refine lv_aload hx hb dX3_bestFrom_58 (lv_at hl 4 rfl) ?_
          refine pi_get hx hb hC hown hP fL_X3_154 3 i (cX_3 hg_2) (v := .int (nI (c.R 1 i))) rfl dX3_bestFrom_60 ?_
          have g_3 := wf.wd hg_2
          refine lv_icmpN_gt (tgt := 152) hx hb dX3_bestFrom_63 (by decide) (by omega) (by omega) (fun c_63 => ?_) (fun c_63 => ?_)
          · skip
            refine lv_iload hx hb dX3_bestFrom_152 (lv_at hl 5 rfl) ?_
            exact ro_iret (x := b2) hx hb hr hlocks hU (by rw [hq.1, show k = c.R 1 i + 1 - u by omega]; rfl) dX3_bestFrom_154
          · skip
            refine lv_aload_n hx hb dX3_bestFrom_66 rfl (lv_at hl 0 rfl) ?_
            refine lv_aload hx hb dX3_bestFrom_67 (lv_at hl 3 rfl) ?_
            refine lv_aload hx hb dX3_bestFrom_69 (lv_at hl 4 rfl) ?_
            refine lv_iload hx hb dX3_bestFrom_71 (lv_at hl 8 rfl) ?_
            refine lv_iload_n hx hb dX3_bestFrom_73 rfl (lv_at hl 1 rfl) ?_
            refine lv_iload hx hb dX3_bestFrom_74 (lv_at hl 2 rfl) ?_
            refine ro_V (As := [.ref (ad 5 h), .ref (ad 3 i), .int (nI k), .int (nI u), .int (nI kd)]) (h0 := ad 0 0) (rest := []) (v := nI (cwrS c h i k u kd)) hx hb hml hown hC hS hAb (mX3_countWrongs l hX h i k u kd hg_1 hg_2 (by first | assumption | omega | (simp only [decide_eq_false_iff_not, decide_eq_true_eq] at *; omega)) (by first | assumption | omega | (simp only [decide_eq_false_iff_not, decide_eq_true_eq] at *; omega))) kV_X3_331 ⟨rfl, rfl⟩ ⟨Nat.le_of_ble_eq_true rfl, Nat.le_of_ble_eq_true rfl⟩ (hP.recv hC cX_0 rfl) rfl hl (Nat.le_of_ble_eq_true rfl) ⟨Nat.zero_le _, Nat.zero_le _⟩ dX3_bestFrom_76 ?_
            refine lv_istore (lv' := [(11, .int (nI (cwrS c h i k u kd))), (0, .ref (ad 0 0)), (3, .int (nI u)), (4, .int (nI kd)), (5, .ref (ad 5 h)), (6, .ref (ad 3 i)), (7, .int b2), (8, .int m2), (9, .int g2), (10, .int (nI k))]) hx hb dX3_bestFrom_79 hl (by decide) rfl (fun ls hl => ?_)
            refine lv_aload hx hb dX3_bestFrom_81 (lv_at hl 4 rfl) ?_
            refine lv_aload hx hb dX3_bestFrom_83 (lv_at hl 5 rfl) ?_
            refine lv_iload hx hb dX3_bestFrom_85 (lv_at hl 9 rfl) ?_
            refine lv_iload_n hx hb dX3_bestFrom_87 rfl (lv_at hl 2 rfl) ?_
            refine lv_iload hx hb dX3_bestFrom_88 (lv_at hl 3 rfl) ?_
            refine ro_S (As := [.ref (ad 5 h), .ref (ad 3 i), .int (nI k), .int (nI u), .int (nI kd)]) (rest := []) (v := fgS c h i k u kd) hx hb hml hown hC hS hAb (mX3_fameGain l hX h i k u kd hg_1 hg_2 (by first | assumption | omega | (simp only [decide_eq_false_iff_not, decide_eq_true_eq] at *; omega)) (by first | assumption | omega | (simp only [decide_eq_false_iff_not, decide_eq_true_eq] at *; omega))) kS_X3_334 ⟨rfl, rfl⟩ ⟨Nat.le_of_ble_eq_true rfl, Nat.le_of_ble_eq_true rfl⟩ rfl hl (Nat.le_of_ble_eq_true rfl) ⟨Nat.zero_le _, Nat.zero_le _⟩ dX3_bestFrom_90 ?_
            refine lv_istore (lv' := [(12, .int (fgS c h i k u kd)), (11, .int (nI (cwrS c h i k u kd))), (0, .ref (ad 0 0)), (3, .int (nI u)), (4, .int (nI kd)), (5, .ref (ad 5 h)), (6, .ref (ad 3 i)), (7, .int b2), (8, .int m2), (9, .int g2), (10, .int (nI k))]) hx hb dX3_bestFrom_93 hl (by decide) rfl (fun ls hl => ?_)
            refine lv_iload hx hb dX3_bestFrom_95 (lv_at hl 1 rfl) ?_
            refine lv_iload hx hb dX3_bestFrom_97 (lv_at hl 8 rfl) ?_
            refine lv_icmp_lt (tgt := 116) hx hb dX3_bestFrom_99 (by decide) (fun c_99 => ?_) (fun c_99 => ?_)
            · skip
              refine lv_iconstN hx hb 1 dX3_bestFrom_116 (by decide) ?_
              refine lv_goto (tgt := 121) hx hb dX3_bestFrom_117 (by decide) ?_
              refine lv_istore (lv' := [(13, .int (nI 1)), (12, .int (fgS c h i k u kd)), (11, .int (nI (cwrS c h i k u kd))), (0, .ref (ad 0 0)), (3, .int (nI u)), (4, .int (nI kd)), (5, .ref (ad 5 h)), (6, .ref (ad 3 i)), (7, .int b2), (8, .int m2), (9, .int g2), (10, .int (nI k))]) hx hb dX3_bestFrom_121 hl (by decide) rfl (fun ls hl => ?_)
              refine lv_iload hx hb dX3_bestFrom_123 (lv_at hl 8 rfl) ?_
              refine lv_iconst (v := -1) hx hb dX3_bestFrom_125 (by decide) ?_
              refine lv_icmp_eq (tgt := 134) hx hb dX3_bestFrom_126 (by decide) (fun c_126 => ?_) (fun c_126 => ?_)
              · skip
                refine lv_iload hx hb dX3_bestFrom_134 (lv_at hl 11 rfl) ?_
                refine lv_istore (lv' := [(7, .int (nI k)), (13, .int (nI 1)), (12, .int (fgS c h i k u kd)), (11, .int (nI (cwrS c h i k u kd))), (0, .ref (ad 0 0)), (3, .int (nI u)), (4, .int (nI kd)), (5, .ref (ad 5 h)), (6, .ref (ad 3 i)), (8, .int m2), (9, .int g2), (10, .int (nI k))]) hx hb dX3_bestFrom_136 hl (by decide) rfl (fun ls hl => ?_)
                refine lv_iload hx hb dX3_bestFrom_138 (lv_at hl 3 rfl) ?_
                refine lv_istore (lv' := [(8, .int (nI (cwrS c h i k u kd))), (7, .int (nI k)), (13, .int (nI 1)), (12, .int (fgS c h i k u kd)), (11, .int (nI (cwrS c h i k u kd))), (0, .ref (ad 0 0)), (3, .int (nI u)), (4, .int (nI kd)), (5, .ref (ad 5 h)), (6, .ref (ad 3 i)), (9, .int g2), (10, .int (nI k))]) hx hb dX3_bestFrom_140 hl (by decide) rfl (fun ls hl => ?_)
                refine lv_iload hx hb dX3_bestFrom_142 (lv_at hl 3 rfl) ?_
                refine lv_istore (lv' := [(9, .int (fgS c h i k u kd)), (8, .int (nI (cwrS c h i k u kd))), (7, .int (nI k)), (13, .int (nI 1)), (12, .int (fgS c h i k u kd)), (11, .int (nI (cwrS c h i k u kd))), (0, .ref (ad 0 0)), (3, .int (nI u)), (4, .int (nI kd)), (5, .ref (ad 5 h)), (6, .ref (ad 3 i)), (10, .int (nI k))]) hx hb dX3_bestFrom_144 hl (by decide) rfl (fun ls hl => ?_)
                refine lv_iincN (v := 1) (lv' := [(10, .int (nI (k + 1))), (9, .int (fgS c h i k u kd)), (8, .int (nI (cwrS c h i k u kd))), (7, .int (nI k)), (13, .int (nI 1)), (12, .int (fgS c h i k u kd)), (11, .int (nI (cwrS c h i k u kd))), (0, .ref (ad 0 0)), (3, .int (nI u)), (4, .int (nI kd)), (5, .ref (ad 5 h)), (6, .ref (ad 3 i))]) hx hb dX3_bestFrom_146 hl (k := 11) rfl (by decide) (by decide) rfl (fun ls hl => ?_)
                refine lv_goto (tgt := 54) hx hb dX3_bestFrom_149 (by decide) ?_
                exact ih54 (k + 1) (nI k) (nI (cwrS c h i k u kd)) (fgS c h i k u kd) (by first | rfl | assumption | omega | (simp [c_21, c_29, c_63, c_99, c_126]; done) | (simp_all [c_21, c_29, c_63, c_99, c_126]; done)) (by first | exact bf_take wf hi2 hu (by omega) hq (Or.inl c_126) | exact bf_take wf hi2 hu (by omega) hq (Or.inr (Or.inl c_99)) | exact bf_take wf hi2 hu (by omega) hq (Or.inr (Or.inr ⟨c_106, c_113⟩)) | exact bf_keep wf hi2 hu hq c_126 c_99 (fun z => c_106 z.1) | exact bf_keep wf hi2 hu hq c_126 c_99 (fun z => c_113 z.2)) (by omega) _ (lv_sub hl [7, 8, 9, 10, 11, 3, 2, 1, 0] rfl)
              · skip
                refine lv_iload hx hb dX3_bestFrom_129 (lv_at hl 0 rfl) ?_
                refine lv_ifN_eq (tgt := 146) hx hb dX3_bestFrom_131 (by decide) (by omega) (fun c_131 => ?_) (fun c_131 => ?_)
                · skip
                  exact absurd c_131 (by decide)
                · skip
                  refine lv_iload hx hb dX3_bestFrom_134 (lv_at hl 11 rfl) ?_
                  refine lv_istore (lv' := [(7, .int (nI k)), (13, .int (nI 1)), (12, .int (fgS c h i k u kd)), (11, .int (nI (cwrS c h i k u kd))), (0, .ref (ad 0 0)), (3, .int (nI u)), (4, .int (nI kd)), (5, .ref (ad 5 h)), (6, .ref (ad 3 i)), (8, .int m2), (9, .int g2), (10, .int (nI k))]) hx hb dX3_bestFrom_136 hl (by decide) rfl (fun ls hl => ?_)
                  refine lv_iload hx hb dX3_bestFrom_138 (lv_at hl 3 rfl) ?_
                  refine lv_istore (lv' := [(8, .int (nI (cwrS c h i k u kd))), (7, .int (nI k)), (13, .int (nI 1)), (12, .int (fgS c h i k u kd)), (11, .int (nI (cwrS c h i k u kd))), (0, .ref (ad 0 0)), (3, .int (nI u)), (4, .int (nI kd)), (5, .ref (ad 5 h)), (6, .ref (ad 3 i)), (9, .int g2), (10, .int (nI k))]) hx hb dX3_bestFrom_140 hl (by decide) rfl (fun ls hl => ?_)
                  refine lv_iload hx hb dX3_bestFrom_142 (lv_at hl 3 rfl) ?_
                  refine lv_istore (lv' := [(9, .int (fgS c h i k u kd)), (8, .int (nI (cwrS c h i k u kd))), (7, .int (nI k)), (13, .int (nI 1)), (12, .int (fgS c h i k u kd)), (11, .int (nI (cwrS c h i k u kd))), (0, .ref (ad 0 0)), (3, .int (nI u)), (4, .int (nI kd)), (5, .ref (ad 5 h)), (6, .ref (ad 3 i)), (10, .int (nI k))]) hx hb dX3_bestFrom_144 hl (by decide) rfl (fun ls hl => ?_)
                  refine lv_iincN (v := 1) (lv' := [(10, .int (nI (k + 1))), (9, .int (fgS c h i k u kd)), (8, .int (nI (cwrS c h i k u kd))), (7, .int (nI k)), (13, .int (nI 1)), (12, .int (fgS c h i k u kd)), (11, .int (nI (cwrS c h i k u kd))), (0, .ref (ad 0 0)), (3, .int (nI u)), (4, .int (nI kd)), (5, .ref (ad 5 h)), (6, .ref (ad 3 i))]) hx hb dX3_bestFrom_146 hl (k := 11) rfl (by decide) (by decide) rfl (fun ls hl => ?_)
                  refine lv_goto (tgt := 54) hx hb dX3_bestFrom_149 (by decide) ?_
                  exact ih54 (k + 1) (nI k) (nI (cwrS c h i k u kd)) (fgS c h i k u kd) (by first | rfl | assumption | omega | (simp [c_21, c_29, c_63, c_99, c_126]; done) | (simp_all [c_21, c_29, c_63, c_99, c_126]; done)) (by first | exact bf_take wf hi2 hu (by omega) hq (Or.inl c_126) | exact bf_take wf hi2 hu (by omega) hq (Or.inr (Or.inl c_99)) | exact bf_take wf hi2 hu (by omega) hq (Or.inr (Or.inr ⟨c_106, c_113⟩)) | exact bf_keep wf hi2 hu hq c_126 c_99 (fun z => c_106 z.1) | exact bf_keep wf hi2 hu hq c_126 c_99 (fun z => c_113 z.2)) (by omega) _ (lv_sub hl [7, 8, 9, 10, 11, 3, 2, 1, 0] rfl)
            · skip
              refine lv_iload hx hb dX3_bestFrom_102 (lv_at hl 1 rfl) ?_
              refine lv_iload hx hb dX3_bestFrom_104 (lv_at hl 8 rfl) ?_
              refine lv_icmp_ne (tgt := 120) hx hb dX3_bestFrom_106 (by decide) (fun c_106 => ?_) (fun c_106 => ?_)
              · skip
                refine lv_iconstN hx hb 0 dX3_bestFrom_120 (by decide) ?_
                refine lv_istore (lv' := [(13, .int (nI 0)), (12, .int (fgS c h i k u kd)), (11, .int (nI (cwrS c h i k u kd))), (0, .ref (ad 0 0)), (3, .int (nI u)), (4, .int (nI kd)), (5, .ref (ad 5 h)), (6, .ref (ad 3 i)), (7, .int b2), (8, .int m2), (9, .int g2), (10, .int (nI k))]) hx hb dX3_bestFrom_121 hl (by decide) rfl (fun ls hl => ?_)
                refine lv_iload hx hb dX3_bestFrom_123 (lv_at hl 8 rfl) ?_
                refine lv_iconst (v := -1) hx hb dX3_bestFrom_125 (by decide) ?_
                refine lv_icmp_eq (tgt := 134) hx hb dX3_bestFrom_126 (by decide) (fun c_126 => ?_) (fun c_126 => ?_)
                · skip
                  refine lv_iload hx hb dX3_bestFrom_134 (lv_at hl 11 rfl) ?_
                  refine lv_istore (lv' := [(7, .int (nI k)), (13, .int (nI 0)), (12, .int (fgS c h i k u kd)), (11, .int (nI (cwrS c h i k u kd))), (0, .ref (ad 0 0)), (3, .int (nI u)), (4, .int (nI kd)), (5, .ref (ad 5 h)), (6, .ref (ad 3 i)), (8, .int m2), (9, .int g2), (10, .int (nI k))]) hx hb dX3_bestFrom_136 hl (by decide) rfl (fun ls hl => ?_)
                  refine lv_iload hx hb dX3_bestFrom_138 (lv_at hl 3 rfl) ?_
                  refine lv_istore (lv' := [(8, .int (nI (cwrS c h i k u kd))), (7, .int (nI k)), (13, .int (nI 0)), (12, .int (fgS c h i k u kd)), (11, .int (nI (cwrS c h i k u kd))), (0, .ref (ad 0 0)), (3, .int (nI u)), (4, .int (nI kd)), (5, .ref (ad 5 h)), (6, .ref (ad 3 i)), (9, .int g2), (10, .int (nI k))]) hx hb dX3_bestFrom_140 hl (by decide) rfl (fun ls hl => ?_)
                  refine lv_iload hx hb dX3_bestFrom_142 (lv_at hl 3 rfl) ?_
                  refine lv_istore (lv' := [(9, .int (fgS c h i k u kd)), (8, .int (nI (cwrS c h i k u kd))), (7, .int (nI k)), (13, .int (nI 0)), (12, .int (fgS c h i k u kd)), (11, .int (nI (cwrS c h i k u kd))), (0, .ref (ad 0 0)), (3, .int (nI u)), (4, .int (nI kd)), (5, .ref (ad 5 h)), (6, .ref (ad 3 i)), (10, .int (nI k))]) hx hb dX3_bestFrom_144 hl (by decide) rfl (fun ls hl => ?_)
                  refine lv_iincN (v := 1) (lv' := [(10, .int (nI (k + 1))), (9, .int (fgS c h i k u kd)), (8, .int (nI (cwrS c h i k u kd))), (7, .int (nI k)), (13, .int (nI 0)), (12, .int (fgS c h i k u kd)), (11, .int (nI (cwrS c h i k u kd))), (0, .ref (ad 0 0)), (3, .int (nI u)), (4, .int (nI kd)), (5, .ref (ad 5 h)), (6, .ref (ad 3 i))]) hx hb dX3_bestFrom_146 hl (k := 11) rfl (by decide) (by decide) rfl (fun ls hl => ?_)
                  refine lv_goto (tgt := 54) hx hb dX3_bestFrom_149 (by decide) ?_
                  exact ih54 (k + 1) (nI k) (nI (cwrS c h i k u kd)) (fgS c h i k u kd) (by first | rfl | assumption | omega | (simp [c_21, c_29, c_63, c_99, c_106, c_126]; done) | (simp_all [c_21, c_29, c_63, c_99, c_106, c_126]; done)) (by first | exact bf_take wf hi2 hu (by omega) hq (Or.inl c_126) | exact bf_take wf hi2 hu (by omega) hq (Or.inr (Or.inl c_99)) | exact bf_take wf hi2 hu (by omega) hq (Or.inr (Or.inr ⟨c_106, c_113⟩)) | exact bf_keep wf hi2 hu hq c_126 c_99 (fun z => c_106 z.1) | exact bf_keep wf hi2 hu hq c_126 c_99 (fun z => c_113 z.2)) (by omega) _ (lv_sub hl [7, 8, 9, 10, 11, 3, 2, 1, 0] rfl)
                · skip
                  refine lv_iload hx hb dX3_bestFrom_129 (lv_at hl 0 rfl) ?_
                  refine lv_ifN_eq (tgt := 146) hx hb dX3_bestFrom_131 (by decide) (by omega) (fun c_131 => ?_) (fun c_131 => ?_)
                  · skip
                    refine lv_iincN (v := 1) (lv' := [(10, .int (nI (k + 1))), (13, .int (nI 0)), (12, .int (fgS c h i k u kd)), (11, .int (nI (cwrS c h i k u kd))), (0, .ref (ad 0 0)), (3, .int (nI u)), (4, .int (nI kd)), (5, .ref (ad 5 h)), (6, .ref (ad 3 i)), (7, .int b2), (8, .int m2), (9, .int g2)]) hx hb dX3_bestFrom_146 hl (k := 11) rfl (by decide) (by decide) rfl (fun ls hl => ?_)
                    refine lv_goto (tgt := 54) hx hb dX3_bestFrom_149 (by decide) ?_
                    exact ih54 (k + 1) b2 m2 g2 (by first | rfl | assumption | omega | (simp [c_21, c_29, c_63, c_99, c_106, c_126]; done) | (simp_all [c_21, c_29, c_63, c_99, c_106, c_126]; done)) (by first | exact bf_take wf hi2 hu (by omega) hq (Or.inl c_126) | exact bf_take wf hi2 hu (by omega) hq (Or.inr (Or.inl c_99)) | exact bf_take wf hi2 hu (by omega) hq (Or.inr (Or.inr ⟨c_106, c_113⟩)) | exact bf_keep wf hi2 hu hq c_126 c_99 (fun z => c_106 z.1) | exact bf_keep wf hi2 hu hq c_126 c_99 (fun z => c_113 z.2)) (by omega) _ (lv_sub hl [4, 5, 6, 7, 8, 9, 10, 11, 0] rfl)
                  · skip
                    exact absurd c_131 (by decide)
              · skip
                refine lv_iload hx hb dX3_bestFrom_109 (lv_at hl 0 rfl) ?_
                refine lv_iload hx hb dX3_bestFrom_111 (lv_at hl 9 rfl) ?_
                refine lv_icmp_le (tgt := 120) hx hb dX3_bestFrom_113 (by decide) (fun c_113 => ?_) (fun c_113 => ?_)
                · skip
                  have c_113 := Int32.not_lt.mpr c_113
                  refine lv_iconstN hx hb 0 dX3_bestFrom_120 (by decide) ?_
                  refine lv_istore (lv' := [(13, .int (nI 0)), (12, .int (fgS c h i k u kd)), (11, .int (nI (cwrS c h i k u kd))), (0, .ref (ad 0 0)), (3, .int (nI u)), (4, .int (nI kd)), (5, .ref (ad 5 h)), (6, .ref (ad 3 i)), (7, .int b2), (8, .int m2), (9, .int g2), (10, .int (nI k))]) hx hb dX3_bestFrom_121 hl (by decide) rfl (fun ls hl => ?_)
                  refine lv_iload hx hb dX3_bestFrom_123 (lv_at hl 8 rfl) ?_
                  refine lv_iconst (v := -1) hx hb dX3_bestFrom_125 (by decide) ?_
                  refine lv_icmp_eq (tgt := 134) hx hb dX3_bestFrom_126 (by decide) (fun c_126 => ?_) (fun c_126 => ?_)
                  · skip
                    refine lv_iload hx hb dX3_bestFrom_134 (lv_at hl 11 rfl) ?_
                    refine lv_istore (lv' := [(7, .int (nI k)), (13, .int (nI 0)), (12, .int (fgS c h i k u kd)), (11, .int (nI (cwrS c h i k u kd))), (0, .ref (ad 0 0)), (3, .int (nI u)), (4, .int (nI kd)), (5, .ref (ad 5 h)), (6, .ref (ad 3 i)), (8, .int m2), (9, .int g2), (10, .int (nI k))]) hx hb dX3_bestFrom_136 hl (by decide) rfl (fun ls hl => ?_)
                    refine lv_iload hx hb dX3_bestFrom_138 (lv_at hl 3 rfl) ?_
                    refine lv_istore (lv' := [(8, .int (nI (cwrS c h i k u kd))), (7, .int (nI k)), (13, .int (nI 0)), (12, .int (fgS c h i k u kd)), (11, .int (nI (cwrS c h i k u kd))), (0, .ref (ad 0 0)), (3, .int (nI u)), (4, .int (nI kd)), (5, .ref (ad 5 h)), (6, .ref (ad 3 i)), (9, .int g2), (10, .int (nI k))]) hx hb dX3_bestFrom_140 hl (by decide) rfl (fun ls hl => ?_)
                    refine lv_iload hx hb dX3_bestFrom_142 (lv_at hl 3 rfl) ?_
                    refine lv_istore (lv' := [(9, .int (fgS c h i k u kd)), (8, .int (nI (cwrS c h i k u kd))), (7, .int (nI k)), (13, .int (nI 0)), (12, .int (fgS c h i k u kd)), (11, .int (nI (cwrS c h i k u kd))), (0, .ref (ad 0 0)), (3, .int (nI u)), (4, .int (nI kd)), (5, .ref (ad 5 h)), (6, .ref (ad 3 i)), (10, .int (nI k))]) hx hb dX3_bestFrom_144 hl (by decide) rfl (fun ls hl => ?_)
                    refine lv_iincN (v := 1) (lv' := [(10, .int (nI (k + 1))), (9, .int (fgS c h i k u kd)), (8, .int (nI (cwrS c h i k u kd))), (7, .int (nI k)), (13, .int (nI 0)), (12, .int (fgS c h i k u kd)), (11, .int (nI (cwrS c h i k u kd))), (0, .ref (ad 0 0)), (3, .int (nI u)), (4, .int (nI kd)), (5, .ref (ad 5 h)), (6, .ref (ad 3 i))]) hx hb dX3_bestFrom_146 hl (k := 11) rfl (by decide) (by decide) rfl (fun ls hl => ?_)
                    refine lv_goto (tgt := 54) hx hb dX3_bestFrom_149 (by decide) ?_
                    exact ih54 (k + 1) (nI k) (nI (cwrS c h i k u kd)) (fgS c h i k u kd) (by first | rfl | assumption | omega | (simp [c_21, c_29, c_63, c_99, c_106, c_113, c_126]; done) | (simp_all [c_21, c_29, c_63, c_99, c_106, c_113, c_126]; done)) (by first | exact bf_take wf hi2 hu (by omega) hq (Or.inl c_126) | exact bf_take wf hi2 hu (by omega) hq (Or.inr (Or.inl c_99)) | exact bf_take wf hi2 hu (by omega) hq (Or.inr (Or.inr ⟨c_106, c_113⟩)) | exact bf_keep wf hi2 hu hq c_126 c_99 (fun z => c_106 z.1) | exact bf_keep wf hi2 hu hq c_126 c_99 (fun z => c_113 z.2)) (by omega) _ (lv_sub hl [7, 8, 9, 10, 11, 3, 2, 1, 0] rfl)
                  · skip
                    refine lv_iload hx hb dX3_bestFrom_129 (lv_at hl 0 rfl) ?_
                    refine lv_ifN_eq (tgt := 146) hx hb dX3_bestFrom_131 (by decide) (by omega) (fun c_131 => ?_) (fun c_131 => ?_)
                    · skip
                      refine lv_iincN (v := 1) (lv' := [(10, .int (nI (k + 1))), (13, .int (nI 0)), (12, .int (fgS c h i k u kd)), (11, .int (nI (cwrS c h i k u kd))), (0, .ref (ad 0 0)), (3, .int (nI u)), (4, .int (nI kd)), (5, .ref (ad 5 h)), (6, .ref (ad 3 i)), (7, .int b2), (8, .int m2), (9, .int g2)]) hx hb dX3_bestFrom_146 hl (k := 11) rfl (by decide) (by decide) rfl (fun ls hl => ?_)
                      refine lv_goto (tgt := 54) hx hb dX3_bestFrom_149 (by decide) ?_
                      exact ih54 (k + 1) b2 m2 g2 (by first | rfl | assumption | omega | (simp [c_21, c_29, c_63, c_99, c_106, c_113, c_126]; done) | (simp_all [c_21, c_29, c_63, c_99, c_106, c_113, c_126]; done)) (by first | exact bf_take wf hi2 hu (by omega) hq (Or.inl c_126) | exact bf_take wf hi2 hu (by omega) hq (Or.inr (Or.inl c_99)) | exact bf_take wf hi2 hu (by omega) hq (Or.inr (Or.inr ⟨c_106, c_113⟩)) | exact bf_keep wf hi2 hu hq c_126 c_99 (fun z => c_106 z.1) | exact bf_keep wf hi2 hu hq c_126 c_99 (fun z => c_113 z.2)) (by omega) _ (lv_sub hl [4, 5, 6, 7, 8, 9, 10, 11, 0] rfl)
                    · skip
                      exact absurd c_131 (by decide)
                · skip
                  have c_113 := Int32.not_le.mp c_113
                  refine lv_iconstN hx hb 1 dX3_bestFrom_116 (by decide) ?_
                  refine lv_goto (tgt := 121) hx hb dX3_bestFrom_117 (by decide) ?_
                  refine lv_istore (lv' := [(13, .int (nI 1)), (12, .int (fgS c h i k u kd)), (11, .int (nI (cwrS c h i k u kd))), (0, .ref (ad 0 0)), (3, .int (nI u)), (4, .int (nI kd)), (5, .ref (ad 5 h)), (6, .ref (ad 3 i)), (7, .int b2), (8, .int m2), (9, .int g2), (10, .int (nI k))]) hx hb dX3_bestFrom_121 hl (by decide) rfl (fun ls hl => ?_)
                  refine lv_iload hx hb dX3_bestFrom_123 (lv_at hl 8 rfl) ?_
                  refine lv_iconst (v := -1) hx hb dX3_bestFrom_125 (by decide) ?_
                  refine lv_icmp_eq (tgt := 134) hx hb dX3_bestFrom_126 (by decide) (fun c_126 => ?_) (fun c_126 => ?_)
                  · skip
                    refine lv_iload hx hb dX3_bestFrom_134 (lv_at hl 11 rfl) ?_
                    refine lv_istore (lv' := [(7, .int (nI k)), (13, .int (nI 1)), (12, .int (fgS c h i k u kd)), (11, .int (nI (cwrS c h i k u kd))), (0, .ref (ad 0 0)), (3, .int (nI u)), (4, .int (nI kd)), (5, .ref (ad 5 h)), (6, .ref (ad 3 i)), (8, .int m2), (9, .int g2), (10, .int (nI k))]) hx hb dX3_bestFrom_136 hl (by decide) rfl (fun ls hl => ?_)
                    refine lv_iload hx hb dX3_bestFrom_138 (lv_at hl 3 rfl) ?_
                    refine lv_istore (lv' := [(8, .int (nI (cwrS c h i k u kd))), (7, .int (nI k)), (13, .int (nI 1)), (12, .int (fgS c h i k u kd)), (11, .int (nI (cwrS c h i k u kd))), (0, .ref (ad 0 0)), (3, .int (nI u)), (4, .int (nI kd)), (5, .ref (ad 5 h)), (6, .ref (ad 3 i)), (9, .int g2), (10, .int (nI k))]) hx hb dX3_bestFrom_140 hl (by decide) rfl (fun ls hl => ?_)
                    refine lv_iload hx hb dX3_bestFrom_142 (lv_at hl 3 rfl) ?_
                    refine lv_istore (lv' := [(9, .int (fgS c h i k u kd)), (8, .int (nI (cwrS c h i k u kd))), (7, .int (nI k)), (13, .int (nI 1)), (12, .int (fgS c h i k u kd)), (11, .int (nI (cwrS c h i k u kd))), (0, .ref (ad 0 0)), (3, .int (nI u)), (4, .int (nI kd)), (5, .ref (ad 5 h)), (6, .ref (ad 3 i)), (10, .int (nI k))]) hx hb dX3_bestFrom_144 hl (by decide) rfl (fun ls hl => ?_)
                    refine lv_iincN (v := 1) (lv' := [(10, .int (nI (k + 1))), (9, .int (fgS c h i k u kd)), (8, .int (nI (cwrS c h i k u kd))), (7, .int (nI k)), (13, .int (nI 1)), (12, .int (fgS c h i k u kd)), (11, .int (nI (cwrS c h i k u kd))), (0, .ref (ad 0 0)), (3, .int (nI u)), (4, .int (nI kd)), (5, .ref (ad 5 h)), (6, .ref (ad 3 i))]) hx hb dX3_bestFrom_146 hl (k := 11) rfl (by decide) (by decide) rfl (fun ls hl => ?_)
                    refine lv_goto (tgt := 54) hx hb dX3_bestFrom_149 (by decide) ?_
                    exact ih54 (k + 1) (nI k) (nI (cwrS c h i k u kd)) (fgS c h i k u kd) (by first | rfl | assumption | omega | (simp [c_21, c_29, c_63, c_99, c_106, c_113, c_126]; done) | (simp_all [c_21, c_29, c_63, c_99, c_106, c_113, c_126]; done)) (by first | exact bf_take wf hi2 hu (by omega) hq (Or.inl c_126) | exact bf_take wf hi2 hu (by omega) hq (Or.inr (Or.inl c_99)) | exact bf_take wf hi2 hu (by omega) hq (Or.inr (Or.inr ⟨c_106, c_113⟩)) | exact bf_keep wf hi2 hu hq c_126 c_99 (fun z => c_106 z.1) | exact bf_keep wf hi2 hu hq c_126 c_99 (fun z => c_113 z.2)) (by omega) _ (lv_sub hl [7, 8, 9, 10, 11, 3, 2, 1, 0] rfl)
                  · skip
                    refine lv_iload hx hb dX3_bestFrom_129 (lv_at hl 0 rfl) ?_
                    refine lv_ifN_eq (tgt := 146) hx hb dX3_bestFrom_131 (by decide) (by omega) (fun c_131 => ?_) (fun c_131 => ?_)
                    · skip
                      exact absurd c_131 (by decide)
                    · skip
                      refine lv_iload hx hb dX3_bestFrom_134 (lv_at hl 11 rfl) ?_
                      refine lv_istore (lv' := [(7, .int (nI k)), (13, .int (nI 1)), (12, .int (fgS c h i k u kd)), (11, .int (nI (cwrS c h i k u kd))), (0, .ref (ad 0 0)), (3, .int (nI u)), (4, .int (nI kd)), (5, .ref (ad 5 h)), (6, .ref (ad 3 i)), (8, .int m2), (9, .int g2), (10, .int (nI k))]) hx hb dX3_bestFrom_136 hl (by decide) rfl (fun ls hl => ?_)
                      refine lv_iload hx hb dX3_bestFrom_138 (lv_at hl 3 rfl) ?_
                      refine lv_istore (lv' := [(8, .int (nI (cwrS c h i k u kd))), (7, .int (nI k)), (13, .int (nI 1)), (12, .int (fgS c h i k u kd)), (11, .int (nI (cwrS c h i k u kd))), (0, .ref (ad 0 0)), (3, .int (nI u)), (4, .int (nI kd)), (5, .ref (ad 5 h)), (6, .ref (ad 3 i)), (9, .int g2), (10, .int (nI k))]) hx hb dX3_bestFrom_140 hl (by decide) rfl (fun ls hl => ?_)
                      refine lv_iload hx hb dX3_bestFrom_142 (lv_at hl 3 rfl) ?_
                      refine lv_istore (lv' := [(9, .int (fgS c h i k u kd)), (8, .int (nI (cwrS c h i k u kd))), (7, .int (nI k)), (13, .int (nI 1)), (12, .int (fgS c h i k u kd)), (11, .int (nI (cwrS c h i k u kd))), (0, .ref (ad 0 0)), (3, .int (nI u)), (4, .int (nI kd)), (5, .ref (ad 5 h)), (6, .ref (ad 3 i)), (10, .int (nI k))]) hx hb dX3_bestFrom_144 hl (by decide) rfl (fun ls hl => ?_)
                      refine lv_iincN (v := 1) (lv' := [(10, .int (nI (k + 1))), (9, .int (fgS c h i k u kd)), (8, .int (nI (cwrS c h i k u kd))), (7, .int (nI k)), (13, .int (nI 1)), (12, .int (fgS c h i k u kd)), (11, .int (nI (cwrS c h i k u kd))), (0, .ref (ad 0 0)), (3, .int (nI u)), (4, .int (nI kd)), (5, .ref (ad 5 h)), (6, .ref (ad 3 i))]) hx hb dX3_bestFrom_146 hl (k := 11) rfl (by decide) (by decide) rfl (fun ls hl => ?_)
                      refine lv_goto (tgt := 54) hx hb dX3_bestFrom_149 (by decide) ?_
                      exact ih54 (k + 1) (nI k) (nI (cwrS c h i k u kd)) (fgS c h i k u kd) (by first | rfl | assumption | omega | (simp [c_21, c_29, c_63, c_99, c_106, c_113, c_126]; done) | (simp_all [c_21, c_29, c_63, c_99, c_106, c_113, c_126]; done)) (by first | exact bf_take wf hi2 hu (by omega) hq (Or.inl c_126) | exact bf_take wf hi2 hu (by omega) hq (Or.inr (Or.inl c_99)) | exact bf_take wf hi2 hu (by omega) hq (Or.inr (Or.inr ⟨c_106, c_113⟩)) | exact bf_keep wf hi2 hu hq c_126 c_99 (fun z => c_106 z.1) | exact bf_keep wf hi2 hu hq c_126 c_99 (fun z => c_113 z.2)) (by omega) _ (lv_sub hl [7, 8, 9, 10, 11, 3, 2, 1, 0] rfl)
      exact lp54 (c.R 1 i + 1 - u - 0 + 1) 0 (-1) (nI 0) (nI 0) (by first | rfl | assumption | omega | (simp [c_21, c_29]; done) | (simp_all [c_21, c_29]; done)) (bf_0) (Nat.lt_succ_self _) _ (lv_sub hl [6, 9, 10, 5, 4, 3, 2, 1, 0] rfl)
    · skip
      exact absurd (c_29.symm.trans (isIn_le (by omega) (by decide))) (by decide)
set_option maxHeartbeats 4000000 in
set_option maxRecDepth 100000 in
theorem mX3_bestFrom_b1 (l : Launch) (hst : l.stackTraces = false) {E : En} {c : Cy} {ly : Ly} {L : List Nat} {ad : Nat → Nat → Nat} {H : Heap} (hX : PX E c ly L ad H) (v w u kd : Int32) (hv : isInS v (nI 0) (nI (c.R 10 1) - nI 1) = false) : ExI l yX3_bestFrom cX3_bestFrom 14 .int 7 111 [.ref (ad 0 0), .int v, .int w, .int u, .int kd] E H 1 (fun _ => xIO) 0 := by
  obtain ⟨hP, hly, hLb, wf⟩ := id hX
  refine ex_of (by decide) (Nat.le_of_ble_eq_true rfl) ?_
  intro p e s m below meth co ls hx hb hr hml hown hlocks hout hC hU hl
  have hS : va_S noA s.heap H [] := by rw [hU]; exact va_S.rf
  have hAb : ∀ q, noA q → bA E q := fun _ h => h.elim
  have hl : lv_has ls 14 [(0, .ref (ad 0 0)), (1, .int v), (2, .int w), (3, .int u), (4, .int kd)] := hl
  refine lv_aload_n hx hb dX3_bestFrom_0 rfl (lv_at hl 0 rfl) ?_
  refine lv_iload_n hx hb dX3_bestFrom_1 rfl (lv_at hl 1 rfl) ?_
  exact ex_VR (As := [.int v]) (h0 := ad 0 0) (rest := []) hx hb hml hown hlocks hout hC hU (mX3_handAt_b l hst hX v (by first | assumption | omega)) kV_X3_92 ⟨Nat.le_of_ble_eq_true rfl, Nat.le_of_ble_eq_true rfl⟩ (fun _ => ⟨by decide, rfl⟩) (hP.recv hC cX_0 rfl) rfl hl (Nat.le_of_ble_eq_true rfl) dX3_bestFrom_2 (fun h => absurd h (by decide))
set_option maxHeartbeats 4000000 in
set_option maxRecDepth 100000 in
theorem mX3_bestFrom_b2 (l : Launch) (hst : l.stackTraces = false) {E : En} {c : Cy} {ly : Ly} {L : List Nat} {ad : Nat → Nat → Nat} {H : Heap} (hX : PX E c ly L ad H) (h : Nat) (v u kd : Int32) (hh : h < c.R 10 1) (hv : isInS v (nI 0) (nI (c.R 10 0) - nI 1) = false) : ExI l yX3_bestFrom cX3_bestFrom 14 .int 7 111 [.ref (ad 0 0), .int (nI h), .int v, .int u, .int kd] E H 1 (fun _ => xIO) 0 := by
  obtain ⟨hP, hly, hLb, wf⟩ := id hX
  refine ex_of (by decide) (Nat.le_of_ble_eq_true rfl) ?_
  intro p e s m below meth co ls hx hb hr hml hown hlocks hout hC hU hl
  have hS : va_S noA s.heap H [] := by rw [hU]; exact va_S.rf
  have hAb : ∀ q, noA q → bA E q := fun _ h => h.elim
  have hl : lv_has ls 14 [(0, .ref (ad 0 0)), (1, .int (nI h)), (2, .int v), (3, .int u), (4, .int kd)] := hl
  refine lv_aload_n hx hb dX3_bestFrom_0 rfl (lv_at hl 0 rfl) ?_
  refine lv_iload_n hx hb dX3_bestFrom_1 rfl (lv_at hl 1 rfl) ?_
  refine ro_VR (As := [.int (nI h)]) (h0 := ad 0 0) (rest := []) (v := some (ad 5 h)) hx hb hml hown hC hS hAb (mX3_handAt_g l hX h (by first | assumption | omega | (simp only [decide_eq_false_iff_not, decide_eq_true_eq] at *; omega))) kV_X3_92 ⟨rfl, rfl⟩ ⟨Nat.le_of_ble_eq_true rfl, Nat.le_of_ble_eq_true rfl⟩ (hP.recv hC cX_0 rfl) rfl hl (Nat.le_of_ble_eq_true rfl) ⟨Nat.zero_le _, Nat.zero_le _⟩ dX3_bestFrom_2 ?_
  have hg_1 : h < c.R 11 1 := by have := wf.sw; have := wf.sh'; have := wf.sl; omega
  refine lv_astore (lv' := [(5, .ref (ad 5 h)), (0, .ref (ad 0 0)), (1, .int (nI h)), (2, .int v), (3, .int u), (4, .int kd)]) hx hb dX3_bestFrom_5 hl (by decide) rfl (fun ls hl => ?_)
  refine lv_aload_n hx hb dX3_bestFrom_7 rfl (lv_at hl 1 rfl) ?_
  refine lv_iload_n hx hb dX3_bestFrom_8 rfl (lv_at hl 3 rfl) ?_
  exact ex_VR (As := [.int v]) (h0 := ad 0 0) (rest := []) hx hb hml hown hlocks hout hC hU (mX3_wallAt_b l hst hX v (by first | assumption | omega)) kV_X3_68 ⟨Nat.le_of_ble_eq_true rfl, Nat.le_of_ble_eq_true rfl⟩ (fun _ => ⟨by decide, rfl⟩) (hP.recv hC cX_0 rfl) rfl hl (Nat.le_of_ble_eq_true rfl) dX3_bestFrom_9 (fun h => absurd h (by decide))
set_option maxHeartbeats 4000000 in
set_option maxRecDepth 100000 in
theorem mX3_bestFrom_b3 (l : Launch) (hst : l.stackTraces = false) {E : En} {c : Cy} {ly : Ly} {L : List Nat} {ad : Nat → Nat → Nat} {H : Heap} (hX : PX E c ly L ad H) (h i : Nat) (u kd : Int32) (hh : h < c.R 10 1) (hi : i < c.R 10 0) (hu : isInS u (nI 1) (nI 16) = false) : ExI l yX3_bestFrom cX3_bestFrom 14 .int 6 90 [.ref (ad 0 0), .int (nI h), .int (nI i), .int u, .int kd] E H 1 (fun _ => xIA) 0 := by
  obtain ⟨hP, hly, hLb, wf⟩ := id hX
  refine ex_of (by decide) (Nat.le_of_ble_eq_true rfl) ?_
  intro p e s m below meth co ls hx hb hr hml hown hlocks hout hC hU hl
  have hS : va_S noA s.heap H [] := by rw [hU]; exact va_S.rf
  have hAb : ∀ q, noA q → bA E q := fun _ h => h.elim
  have hl : lv_has ls 14 [(0, .ref (ad 0 0)), (1, .int (nI h)), (2, .int (nI i)), (3, .int u), (4, .int kd)] := hl
  refine lv_aload_n hx hb dX3_bestFrom_0 rfl (lv_at hl 0 rfl) ?_
  refine lv_iload_n hx hb dX3_bestFrom_1 rfl (lv_at hl 1 rfl) ?_
  refine ro_VR (As := [.int (nI h)]) (h0 := ad 0 0) (rest := []) (v := some (ad 5 h)) hx hb hml hown hC hS hAb (mX3_handAt_g l hX h (by first | assumption | omega | (simp only [decide_eq_false_iff_not, decide_eq_true_eq] at *; omega))) kV_X3_92 ⟨rfl, rfl⟩ ⟨Nat.le_of_ble_eq_true rfl, Nat.le_of_ble_eq_true rfl⟩ (hP.recv hC cX_0 rfl) rfl hl (Nat.le_of_ble_eq_true rfl) ⟨Nat.zero_le _, Nat.zero_le _⟩ dX3_bestFrom_2 ?_
  have hg_1 : h < c.R 11 1 := by have := wf.sw; have := wf.sh'; have := wf.sl; omega
  refine lv_astore (lv' := [(5, .ref (ad 5 h)), (0, .ref (ad 0 0)), (1, .int (nI h)), (2, .int (nI i)), (3, .int u), (4, .int kd)]) hx hb dX3_bestFrom_5 hl (by decide) rfl (fun ls hl => ?_)
  refine lv_aload_n hx hb dX3_bestFrom_7 rfl (lv_at hl 1 rfl) ?_
  refine lv_iload_n hx hb dX3_bestFrom_8 rfl (lv_at hl 3 rfl) ?_
  refine ro_VR (As := [.int (nI i)]) (h0 := ad 0 0) (rest := []) (v := some (ad 3 i)) hx hb hml hown hC hS hAb (mX3_wallAt_g l hX i (by first | assumption | omega | (simp only [decide_eq_false_iff_not, decide_eq_true_eq] at *; omega))) kV_X3_68 ⟨rfl, rfl⟩ ⟨Nat.le_of_ble_eq_true rfl, Nat.le_of_ble_eq_true rfl⟩ (hP.recv hC cX_0 rfl) rfl hl (Nat.le_of_ble_eq_true rfl) ⟨Nat.zero_le _, Nat.zero_le _⟩ dX3_bestFrom_9 ?_
  have hg_2 : i < c.R 11 0 := by have := wf.sw; have := wf.sh'; have := wf.sl; omega
  refine lv_astore (lv' := [(6, .ref (ad 3 i)), (5, .ref (ad 5 h)), (0, .ref (ad 0 0)), (1, .int (nI h)), (2, .int (nI i)), (3, .int u), (4, .int kd)]) hx hb dX3_bestFrom_12 hl (by decide) rfl (fun ls hl => ?_)
  refine lv_iload_n hx hb dX3_bestFrom_14 rfl (lv_at hl 5 rfl) ?_
  refine lv_iconstN hx hb 1 dX3_bestFrom_15 (by decide) ?_
  refine lv_bipushN hx hb 16 dX3_bestFrom_16 (by decide) ?_
  refine ro_S (As := [.int u, .int (nI 1), .int (nI 16)]) (rest := []) (v := bI (isInS u (nI 1) (nI 16))) hx hb hml hown hC hS hAb (mX3_isWithin l u (nI 1) (nI 16) ) kS_X3_32 ⟨rfl, rfl⟩ ⟨Nat.le_of_ble_eq_true rfl, Nat.le_of_ble_eq_true rfl⟩ rfl hl (Nat.le_of_ble_eq_true rfl) ⟨Nat.zero_le _, Nat.zero_le _⟩ dX3_bestFrom_18 ?_
  refine lv_bif_eq (tgt := 32) hx hb dX3_bestFrom_21 (by decide) (fun c_21 => ?_) (fun c_21 => ?_)
  · skip
    exact ex_throwR (j := 16) hx hb hst hC hU hown wCl_X3_36 tx_IA (by decide +kernel) rfl (hl.1.trans hml.symm) (Or.inl ⟨dX3_bestFrom_36, dX3_bestFrom_38, dX3_bestFrom_41⟩) dX3_bestFrom_32 dX3_bestFrom_35 hout ⟨Nat.le_of_ble_eq_true rfl, Nat.le_of_ble_eq_true rfl⟩ hlocks ⟨by decide, rfl⟩
  · skip
    exact absurd (c_21.symm.trans hu) (by decide)
set_option maxHeartbeats 4000000 in
set_option maxRecDepth 100000 in
theorem mX3_bestFrom_b4 (l : Launch) (hst : l.stackTraces = false) {E : En} {c : Cy} {ly : Ly} {L : List Nat} {ad : Nat → Nat → Nat} {H : Heap} (hX : PX E c ly L ad H) (h i : Nat) (u kd : Int32) (hh : h < c.R 10 1) (hi : i < c.R 10 0) (hu : isInS u (nI 1) (nI 16) = true) (hk : isInS kd (nI 0) (nI 3) = false) : ExI l yX3_bestFrom cX3_bestFrom 14 .int 6 90 [.ref (ad 0 0), .int (nI h), .int (nI i), .int u, .int kd] E H 1 (fun _ => xIA) 0 := by
  obtain ⟨hP, hly, hLb, wf⟩ := id hX
  refine ex_of (by decide) (Nat.le_of_ble_eq_true rfl) ?_
  intro p e s m below meth co ls hx hb hr hml hown hlocks hout hC hU hl
  have hS : va_S noA s.heap H [] := by rw [hU]; exact va_S.rf
  have hAb : ∀ q, noA q → bA E q := fun _ h => h.elim
  have hl : lv_has ls 14 [(0, .ref (ad 0 0)), (1, .int (nI h)), (2, .int (nI i)), (3, .int u), (4, .int kd)] := hl
  refine lv_aload_n hx hb dX3_bestFrom_0 rfl (lv_at hl 0 rfl) ?_
  refine lv_iload_n hx hb dX3_bestFrom_1 rfl (lv_at hl 1 rfl) ?_
  refine ro_VR (As := [.int (nI h)]) (h0 := ad 0 0) (rest := []) (v := some (ad 5 h)) hx hb hml hown hC hS hAb (mX3_handAt_g l hX h (by first | assumption | omega | (simp only [decide_eq_false_iff_not, decide_eq_true_eq] at *; omega))) kV_X3_92 ⟨rfl, rfl⟩ ⟨Nat.le_of_ble_eq_true rfl, Nat.le_of_ble_eq_true rfl⟩ (hP.recv hC cX_0 rfl) rfl hl (Nat.le_of_ble_eq_true rfl) ⟨Nat.zero_le _, Nat.zero_le _⟩ dX3_bestFrom_2 ?_
  have hg_1 : h < c.R 11 1 := by have := wf.sw; have := wf.sh'; have := wf.sl; omega
  refine lv_astore (lv' := [(5, .ref (ad 5 h)), (0, .ref (ad 0 0)), (1, .int (nI h)), (2, .int (nI i)), (3, .int u), (4, .int kd)]) hx hb dX3_bestFrom_5 hl (by decide) rfl (fun ls hl => ?_)
  refine lv_aload_n hx hb dX3_bestFrom_7 rfl (lv_at hl 1 rfl) ?_
  refine lv_iload_n hx hb dX3_bestFrom_8 rfl (lv_at hl 3 rfl) ?_
  refine ro_VR (As := [.int (nI i)]) (h0 := ad 0 0) (rest := []) (v := some (ad 3 i)) hx hb hml hown hC hS hAb (mX3_wallAt_g l hX i (by first | assumption | omega | (simp only [decide_eq_false_iff_not, decide_eq_true_eq] at *; omega))) kV_X3_68 ⟨rfl, rfl⟩ ⟨Nat.le_of_ble_eq_true rfl, Nat.le_of_ble_eq_true rfl⟩ (hP.recv hC cX_0 rfl) rfl hl (Nat.le_of_ble_eq_true rfl) ⟨Nat.zero_le _, Nat.zero_le _⟩ dX3_bestFrom_9 ?_
  have hg_2 : i < c.R 11 0 := by have := wf.sw; have := wf.sh'; have := wf.sl; omega
  refine lv_astore (lv' := [(6, .ref (ad 3 i)), (5, .ref (ad 5 h)), (0, .ref (ad 0 0)), (1, .int (nI h)), (2, .int (nI i)), (3, .int u), (4, .int kd)]) hx hb dX3_bestFrom_12 hl (by decide) rfl (fun ls hl => ?_)
  refine lv_iload_n hx hb dX3_bestFrom_14 rfl (lv_at hl 5 rfl) ?_
  refine lv_iconstN hx hb 1 dX3_bestFrom_15 (by decide) ?_
  refine lv_bipushN hx hb 16 dX3_bestFrom_16 (by decide) ?_
  refine ro_S (As := [.int u, .int (nI 1), .int (nI 16)]) (rest := []) (v := bI (isInS u (nI 1) (nI 16))) hx hb hml hown hC hS hAb (mX3_isWithin l u (nI 1) (nI 16) ) kS_X3_32 ⟨rfl, rfl⟩ ⟨Nat.le_of_ble_eq_true rfl, Nat.le_of_ble_eq_true rfl⟩ rfl hl (Nat.le_of_ble_eq_true rfl) ⟨Nat.zero_le _, Nat.zero_le _⟩ dX3_bestFrom_18 ?_
  refine lv_bif_eq (tgt := 32) hx hb dX3_bestFrom_21 (by decide) (fun c_21 => ?_) (fun c_21 => ?_)
  · skip
    exact absurd (c_21.symm.trans hu) (by decide)
  · skip
    refine lv_iload hx hb dX3_bestFrom_24 (lv_at hl 6 rfl) ?_
    refine ro_S (As := [.int kd]) (rest := []) (v := bI (isInS kd (nI 0) (nI 3))) hx hb hml hown hC hS hAb (mX3_isKind l kd ) kS_X3_100 ⟨rfl, rfl⟩ ⟨Nat.le_of_ble_eq_true rfl, Nat.le_of_ble_eq_true rfl⟩ rfl hl (Nat.le_of_ble_eq_true rfl) ⟨Nat.zero_le _, Nat.zero_le _⟩ dX3_bestFrom_26 ?_
    refine lv_bif_ne (tgt := 42) hx hb dX3_bestFrom_29 (by decide) (fun c_29 => ?_) (fun c_29 => ?_)
    · skip
      exact absurd (c_29.symm.trans hk) (by decide)
    · skip
      exact ex_throwR (j := 16) hx hb hst hC hU hown wCl_X3_36 tx_IA (by decide +kernel) rfl (hl.1.trans hml.symm) (Or.inl ⟨dX3_bestFrom_36, dX3_bestFrom_38, dX3_bestFrom_41⟩) dX3_bestFrom_32 dX3_bestFrom_35 hout ⟨Nat.le_of_ble_eq_true rfl, Nat.le_of_ble_eq_true rfl⟩ hlocks ⟨by decide, rfl⟩
set_option maxHeartbeats 4000000 in
set_option maxRecDepth 100000 in
theorem mX3_mixedWithWall (l : Launch) {E : En} {c : Cy} {ly : Ly} {L : List Nat} {ad : Nat → Nat → Nat} {H : Heap} (hX : PX E c ly L ad H) (d : Int64) (i : Nat) (hi : i < c.R 10 0) : RoL l yX3_mixedWithWall cX3_mixedWithWall 8 (rmk 6 0 0 133) [.ref (ad 0 0), .long d, .int (nI i)] E H (mwS c i d) := by
  obtain ⟨hP, hly, hLb, wf⟩ := id hX
  refine ro_of (by decide) (Nat.le_of_ble_eq_true rfl) ?_
  intro p e s m below meth co ls hx hb hr hml hown hlocks hnm hC hU hl
  have hS : va_S noA s.heap H [] := by rw [hU]; exact va_S.rf
  have hAb : ∀ q, noA q → bA E q := fun _ h => h.elim
  have hl : lv_has ls 8 [(0, .ref (ad 0 0)), (1, .long d), (3, .int (nI i))] := hl
  have hi2 : i < c.R 11 0 := by have := wf.sw; omega
  have gw := wf.wd hi2
  refine lv_lload_n hx hb dX3_mixedWithWall_0 rfl (lv_at hl 1 rfl) ?_
  refine lv_lstore (lv' := [(4, .long d), (0, .ref (ad 0 0)), (1, .long d), (3, .int (nI i))]) hx hb dX3_mixedWithWall_1 hl (by decide) rfl (fun ls hl => ?_)
  refine lv_iconstN hx hb 0 dX3_mixedWithWall_3 (by decide) ?_
  refine lv_istore (lv' := [(6, .int (nI 0)), (4, .long d), (0, .ref (ad 0 0)), (1, .long d), (3, .int (nI i))]) hx hb dX3_mixedWithWall_4 hl (by decide) rfl (fun ls hl => ?_)
  have lp6 : ∀ fu : Nat, ∀ (k : Nat) (d2 : Int64), k ≤ 7 → d2 = mixL (fun k => owS c i (nI k)) k (d) → 7 - k < fu → ∀ ls : Array Slot, lv_has ls 8 [(0, .ref (ad 0 0)), (3, .int (nI i)), (4, .long d2), (6, .int (nI k))] → W p l e (rmk 6 0 0 133) s m ([.ref (ad 0 0), .long d, .int (nI i)] : List Value).toArray below meth co H [] 0 0 (MQ below (QlR (mwS c i d) H) ([.ref (ad 0 0), .long d, .int (nI i)] : List Value).toArray s 0 0 noA) (F0 m 6 ls []) := by
    intro fu
    induction fu with
    | zero => intro k d2 hk ha hfu; exact absurd hfu (Nat.not_lt_zero _)
    | succ fu ih6 =>
      intro k d2 hk ha hfu ls hl
      refine lv_iload hx hb dX3_mixedWithWall_6 (lv_at hl 3 rfl) ?_
      refine lv_bipushN hx hb 6 dX3_mixedWithWall_8 (by decide) ?_
      refine lv_icmpN_gt (tgt := 33) hx hb dX3_mixedWithWall_10 (by decide) (by omega) (by omega) (fun c_10 => ?_) (fun c_10 => ?_)
      · skip
        refine lv_aload_n hx hb dX3_mixedWithWall_33 rfl (lv_at hl 0 rfl) ?_
        refine lv_iload_n hx hb dX3_mixedWithWall_34 rfl (lv_at hl 1 rfl) ?_
        refine ro_VR (As := [.int (nI i)]) (h0 := ad 0 0) (rest := []) (v := some (ad 3 i)) hx hb hml hown hC hS hAb (mX3_wallAt_g l hX i (by first | assumption | omega | (simp only [decide_eq_false_iff_not, decide_eq_true_eq] at *; omega))) kV_X3_68 ⟨rfl, rfl⟩ ⟨Nat.le_of_ble_eq_true rfl, Nat.le_of_ble_eq_true rfl⟩ (hP.recv hC cX_0 rfl) rfl hl (Nat.le_of_ble_eq_true rfl) ⟨Nat.zero_le _, Nat.zero_le _⟩ dX3_mixedWithWall_35 ?_
        have hg_1 : i < c.R 11 0 := by have := wf.sw; have := wf.sh'; have := wf.sl; omega
        refine pi_get hx hb hC hown hP fL_X3_154 3 i (cX_3 hg_1) (v := .int (nI (c.R 1 i))) rfl dX3_mixedWithWall_38 ?_
        have g_2 := wf.wd hg_1
        refine lv_istore (lv' := [(6, .int (nI (c.R 1 i))), (0, .ref (ad 0 0)), (3, .int (nI i)), (4, .long d2)]) hx hb dX3_mixedWithWall_41 hl (by decide) rfl (fun ls hl => ?_)
        refine lv_iconstN hx hb 0 dX3_mixedWithWall_43 (by decide) ?_
        refine lv_istore (lv' := [(7, .int (nI 0)), (6, .int (nI (c.R 1 i))), (0, .ref (ad 0 0)), (3, .int (nI i)), (4, .long d2)]) hx hb dX3_mixedWithWall_44 hl (by decide) rfl (fun ls hl => ?_)
        have lp46 : ∀ fu : Nat, ∀ (k : Nat) (d2 : Int64), k ≤ c.R 1 i → d2 = mixL (fun k => shI c i k) k (mixL (fun k => owS c i (nI k)) 7 d) → c.R 1 i - k < fu → ∀ ls : Array Slot, lv_has ls 8 [(0, .ref (ad 0 0)), (3, .int (nI i)), (4, .long d2), (6, .int (nI (c.R 1 i))), (7, .int (nI k))] → W p l e (rmk 6 0 0 133) s m ([.ref (ad 0 0), .long d, .int (nI i)] : List Value).toArray below meth co H [] 0 0 (MQ below (QlR (mwS c i d) H) ([.ref (ad 0 0), .long d, .int (nI i)] : List Value).toArray s 0 0 noA) (F0 m 46 ls []) := by
          intro fu
          induction fu with
          | zero => intro k d2 hk ha hfu; exact absurd hfu (Nat.not_lt_zero _)
          | succ fu ih46 =>
            intro k d2 hk ha hfu ls hl
            refine lv_iload hx hb dX3_mixedWithWall_46 (lv_at hl 4 rfl) ?_
            refine lv_iload hx hb dX3_mixedWithWall_48 (lv_at hl 3 rfl) ?_
            refine lv_icmpN_ge (tgt := 73) hx hb dX3_mixedWithWall_50 (by decide) (by omega) (by omega) (fun c_50 => ?_) (fun c_50 => ?_)
            · skip
              refine lv_lload hx hb dX3_mixedWithWall_73 (lv_at hl 2 rfl) ?_
              exact ro_lret (x := d2) hx hb hr hlocks hU (by rw [ha, show k = c.R 1 i by omega]; rfl) dX3_mixedWithWall_75
            · skip
              refine lv_lload hx hb dX3_mixedWithWall_53 (lv_at hl 2 rfl) ?_
              refine lv_aload_n hx hb dX3_mixedWithWall_55 rfl (lv_at hl 0 rfl) ?_
              refine lv_iload_n hx hb dX3_mixedWithWall_56 rfl (lv_at hl 1 rfl) ?_
              refine lv_iload hx hb dX3_mixedWithWall_57 (lv_at hl 4 rfl) ?_
              refine ro_V (As := [.int (nI i), .int (nI k)]) (h0 := ad 0 0) (rest := [.long d2]) (v := shI c i k) hx hb hml hown hC hS hAb (mX3_shows_g l hX i k (by first | assumption | omega | (simp only [decide_eq_false_iff_not, decide_eq_true_eq] at *; omega)) (by first | assumption | omega | (simp only [decide_eq_false_iff_not, decide_eq_true_eq] at *; omega))) kV_X3_372 ⟨rfl, rfl⟩ ⟨Nat.le_of_ble_eq_true rfl, Nat.le_of_ble_eq_true rfl⟩ (hP.recv hC cX_0 rfl) rfl hl (Nat.le_of_ble_eq_true rfl) ⟨Nat.zero_le _, Nat.zero_le _⟩ dX3_mixedWithWall_59 ?_
              refine ro_SL (As := [.long d2, .int (shI c i k)]) (rest := []) (v := d2 * 31 + (shI c i k).toInt64) hx hb hml hown hC hS hAb (mX3_mixed l d2 (shI c i k) ) kS_X3_348 ⟨rfl, rfl⟩ ⟨Nat.le_of_ble_eq_true rfl, Nat.le_of_ble_eq_true rfl⟩ rfl hl (Nat.le_of_ble_eq_true rfl) ⟨Nat.zero_le _, Nat.zero_le _⟩ dX3_mixedWithWall_62 ?_
              refine lv_lstore (lv' := [(4, .long (d2 * 31 + (shI c i k).toInt64)), (0, .ref (ad 0 0)), (3, .int (nI i)), (6, .int (nI (c.R 1 i))), (7, .int (nI k))]) hx hb dX3_mixedWithWall_65 hl (by decide) rfl (fun ls hl => ?_)
              refine lv_iincN (v := 1) (lv' := [(7, .int (nI (k + 1))), (4, .long (d2 * 31 + (shI c i k).toInt64)), (0, .ref (ad 0 0)), (3, .int (nI i)), (6, .int (nI (c.R 1 i)))]) hx hb dX3_mixedWithWall_67 hl (k := 4) rfl (by decide) (by decide) rfl (fun ls hl => ?_)
              refine lv_goto (tgt := 46) hx hb dX3_mixedWithWall_70 (by decide) ?_
              exact ih46 (k + 1) (d2 * 31 + (shI c i k).toInt64) (by first | rfl | assumption | omega | (simp [c_10, c_50]; done) | (simp_all [c_10, c_50]; done)) (by rw [ha]; rfl) (by omega) _ (lv_sub hl [2, 3, 1, 4, 0] rfl)
        exact lp46 (c.R 1 i - 0 + 1) 0 d2 (by first | rfl | assumption | omega | (simp [c_10]; done) | (simp_all [c_10]; done)) (by rw [ha, show k = 7 by omega]; rfl) (Nat.lt_succ_self _) _ (lv_sub hl [2, 3, 4, 1, 0] rfl)
      · skip
        refine lv_lload hx hb dX3_mixedWithWall_13 (lv_at hl 2 rfl) ?_
        refine lv_aload_n hx hb dX3_mixedWithWall_15 rfl (lv_at hl 0 rfl) ?_
        refine lv_iload_n hx hb dX3_mixedWithWall_16 rfl (lv_at hl 1 rfl) ?_
        refine lv_iload hx hb dX3_mixedWithWall_17 (lv_at hl 3 rfl) ?_
        refine ro_V (As := [.int (nI i), .int (nI k)]) (h0 := ad 0 0) (rest := [.long d2]) (v := owS c i (nI k)) hx hb hml hown hC hS hAb (mX3_ofWall_g l hX i k (by first | assumption | omega | (simp only [decide_eq_false_iff_not, decide_eq_true_eq] at *; omega)) (by first | assumption | omega | (simp only [decide_eq_false_iff_not, decide_eq_true_eq] at *; omega))) kV_X3_369 ⟨rfl, rfl⟩ ⟨Nat.le_of_ble_eq_true rfl, Nat.le_of_ble_eq_true rfl⟩ (hP.recv hC cX_0 rfl) rfl hl (Nat.le_of_ble_eq_true rfl) ⟨Nat.zero_le _, Nat.zero_le _⟩ dX3_mixedWithWall_19 ?_
        refine ro_SL (As := [.long d2, .int (owS c i (nI k))]) (rest := []) (v := d2 * 31 + (owS c i (nI k)).toInt64) hx hb hml hown hC hS hAb (mX3_mixed l d2 (owS c i (nI k)) ) kS_X3_348 ⟨rfl, rfl⟩ ⟨Nat.le_of_ble_eq_true rfl, Nat.le_of_ble_eq_true rfl⟩ rfl hl (Nat.le_of_ble_eq_true rfl) ⟨Nat.zero_le _, Nat.zero_le _⟩ dX3_mixedWithWall_22 ?_
        refine lv_lstore (lv' := [(4, .long (d2 * 31 + (owS c i (nI k)).toInt64)), (0, .ref (ad 0 0)), (3, .int (nI i)), (6, .int (nI k))]) hx hb dX3_mixedWithWall_25 hl (by decide) rfl (fun ls hl => ?_)
        refine lv_iincN (v := 1) (lv' := [(6, .int (nI (k + 1))), (4, .long (d2 * 31 + (owS c i (nI k)).toInt64)), (0, .ref (ad 0 0)), (3, .int (nI i))]) hx hb dX3_mixedWithWall_27 hl (k := 3) rfl (by decide) (by decide) rfl (fun ls hl => ?_)
        refine lv_goto (tgt := 6) hx hb dX3_mixedWithWall_30 (by decide) ?_
        exact ih6 (k + 1) (d2 * 31 + (owS c i (nI k)).toInt64) (by first | rfl | assumption | omega | (simp [c_10]; done) | (simp_all [c_10]; done)) (by rw [ha]; rfl) (by omega) _ (lv_sub hl [2, 3, 1, 0] rfl)
  exact lp6 (7 - 0 + 1) 0 d (by first | rfl | assumption | omega | (simp []; done) | (simp_all []; done)) (rfl) (Nat.lt_succ_self _) _ (lv_sub hl [2, 4, 1, 0] rfl)
set_option maxHeartbeats 4000000 in
set_option maxRecDepth 100000 in
theorem mX3_mixedWithHand (l : Launch) {E : En} {c : Cy} {ly : Ly} {L : List Nat} {ad : Nat → Nat → Nat} {H : Heap} (hX : PX E c ly L ad H) (d : Int64) (h : Nat) (hh : h < c.R 10 1) : RoL l yX3_mixedWithHand cX3_mixedWithHand 7 (rmk 5 0 0 112) [.ref (ad 0 0), .long d, .int (nI h)] E H (mhS c h d) := by
  obtain ⟨hP, hly, hLb, wf⟩ := id hX
  refine ro_of (by decide) (Nat.le_of_ble_eq_true rfl) ?_
  intro p e s m below meth co ls hx hb hr hml hown hlocks hnm hC hU hl
  have hS : va_S noA s.heap H [] := by rw [hU]; exact va_S.rf
  have hAb : ∀ q, noA q → bA E q := fun _ h => h.elim
  have hl : lv_has ls 7 [(0, .ref (ad 0 0)), (1, .long d), (3, .int (nI h))] := hl
  refine lv_lload_n hx hb dX3_mixedWithHand_0 rfl (lv_at hl 1 rfl) ?_
  refine lv_lstore (lv' := [(4, .long d), (0, .ref (ad 0 0)), (1, .long d), (3, .int (nI h))]) hx hb dX3_mixedWithHand_1 hl (by decide) rfl (fun ls hl => ?_)
  refine lv_iconstN hx hb 0 dX3_mixedWithHand_3 (by decide) ?_
  refine lv_istore (lv' := [(6, .int (nI 0)), (4, .long d), (0, .ref (ad 0 0)), (1, .long d), (3, .int (nI h))]) hx hb dX3_mixedWithHand_4 hl (by decide) rfl (fun ls hl => ?_)
  have lp6 : ∀ fu : Nat, ∀ (k : Nat) (d2 : Int64), k ≤ 11 → d2 = mixL (fun k => ohS c h (nI k)) k (d) → 11 - k < fu → ∀ ls : Array Slot, lv_has ls 7 [(0, .ref (ad 0 0)), (3, .int (nI h)), (4, .long d2), (6, .int (nI k))] → W p l e (rmk 5 0 0 112) s m ([.ref (ad 0 0), .long d, .int (nI h)] : List Value).toArray below meth co H [] 0 0 (MQ below (QlR (mhS c h d) H) ([.ref (ad 0 0), .long d, .int (nI h)] : List Value).toArray s 0 0 noA) (F0 m 6 ls []) := by
    intro fu
    induction fu with
    | zero => intro k d2 hk ha hfu; exact absurd hfu (Nat.not_lt_zero _)
    | succ fu ih6 =>
      intro k d2 hk ha hfu ls hl
      refine lv_iload hx hb dX3_mixedWithHand_6 (lv_at hl 3 rfl) ?_
      refine lv_bipushN hx hb 10 dX3_mixedWithHand_8 (by decide) ?_
      refine lv_icmpN_gt (tgt := 33) hx hb dX3_mixedWithHand_10 (by decide) (by omega) (by omega) (fun c_10 => ?_) (fun c_10 => ?_)
      · skip
        refine lv_iconstN hx hb 0 dX3_mixedWithHand_33 (by decide) ?_
        refine lv_istore (lv' := [(6, .int (nI 0)), (0, .ref (ad 0 0)), (3, .int (nI h)), (4, .long d2)]) hx hb dX3_mixedWithHand_34 hl (by decide) rfl (fun ls hl => ?_)
        have lp36 : ∀ fu : Nat, ∀ (k : Nat) (d2 : Int64), k ≤ c.R 10 1 → d2 = mixL (fun k => c.Wr h k) k (mixL (fun k => ohS c h (nI k)) 11 d) → c.R 10 1 - k < fu → ∀ ls : Array Slot, lv_has ls 7 [(0, .ref (ad 0 0)), (3, .int (nI h)), (4, .long d2), (6, .int (nI k))] → W p l e (rmk 5 0 0 112) s m ([.ref (ad 0 0), .long d, .int (nI h)] : List Value).toArray below meth co H [] 0 0 (MQ below (QlR (mhS c h d) H) ([.ref (ad 0 0), .long d, .int (nI h)] : List Value).toArray s 0 0 noA) (F0 m 36 ls []) := by
          intro fu
          induction fu with
          | zero => intro k d2 hk ha hfu; exact absurd hfu (Nat.not_lt_zero _)
          | succ fu ih36 =>
            intro k d2 hk ha hfu ls hl
            refine lv_iload hx hb dX3_mixedWithHand_36 (lv_at hl 3 rfl) ?_
            refine lv_aload_n hx hb dX3_mixedWithHand_38 rfl (lv_at hl 0 rfl) ?_
            refine pi_get hx hb hC hown hP fL_X3_16 0 0 cX_0 (v := .ref (ad 1 1)) rfl dX3_mixedWithHand_39 ?_
            refine ro_V (As := []) (h0 := ad 1 1) (rest := [.int (nI k)]) (v := nI (c.R 10 1)) hx hb hml hown hC hS hAb (mJ_size l hP 1 (cX_1 (by decide))) kV_X3_43 ⟨rfl, rfl⟩ ⟨Nat.le_of_ble_eq_true rfl, Nat.le_of_ble_eq_true rfl⟩ (hP.recv hC (cX_1 (i := 1) (by decide)) rfl) rfl hl (Nat.le_of_ble_eq_true rfl) ⟨Nat.zero_le _, Nat.zero_le _⟩ dX3_mixedWithHand_42 ?_
            have g_1 := wf.sh'
            have g_2 := wf.nh
            refine lv_icmpN_ge (tgt := 68) hx hb dX3_mixedWithHand_45 (by decide) (by omega) (by omega) (fun c_45 => ?_) (fun c_45 => ?_)
            · skip
              refine lv_lload hx hb dX3_mixedWithHand_68 (lv_at hl 2 rfl) ?_
              refine lv_aload_n hx hb dX3_mixedWithHand_70 rfl (lv_at hl 0 rfl) ?_
              refine lv_iload_n hx hb dX3_mixedWithHand_71 rfl (lv_at hl 1 rfl) ?_
              refine lv_bipushN hx hb 7 dX3_mixedWithHand_72 (by decide) ?_
              refine ro_V (As := [.int (nI h), .int (nI 7)]) (h0 := ad 0 0) (rest := [.long d2]) (v := wbfS c h 7) hx hb hml hown hC hS hAb (mX3_wouldFame_g l hX h 7 (by first | assumption | omega | (simp only [decide_eq_false_iff_not, decide_eq_true_eq] at *; omega)) (by first | assumption | omega | (simp only [decide_eq_false_iff_not, decide_eq_true_eq] at *; omega))) kV_X3_381 ⟨rfl, rfl⟩ ⟨Nat.le_of_ble_eq_true rfl, Nat.le_of_ble_eq_true rfl⟩ (hP.recv hC cX_0 rfl) rfl hl (Nat.le_of_ble_eq_true rfl) ⟨Nat.zero_le _, Nat.zero_le _⟩ dX3_mixedWithHand_74 ?_
              refine ro_SL (As := [.long d2, .int (wbfS c h 7)]) (rest := []) (v := d2 * 31 + (wbfS c h 7).toInt64) hx hb hml hown hC hS hAb (mX3_mixed l d2 (wbfS c h 7) ) kS_X3_348 ⟨rfl, rfl⟩ ⟨Nat.le_of_ble_eq_true rfl, Nat.le_of_ble_eq_true rfl⟩ rfl hl (Nat.le_of_ble_eq_true rfl) ⟨Nat.zero_le _, Nat.zero_le _⟩ dX3_mixedWithHand_77 ?_
              exact ro_lret (x := d2 * 31 + (wbfS c h 7).toInt64) hx hb hr hlocks hU (by rw [ha, show k = c.R 10 1 by omega]; rfl) dX3_mixedWithHand_80
            · skip
              refine lv_lload hx hb dX3_mixedWithHand_48 (lv_at hl 2 rfl) ?_
              refine lv_aload_n hx hb dX3_mixedWithHand_50 rfl (lv_at hl 0 rfl) ?_
              refine lv_iload_n hx hb dX3_mixedWithHand_51 rfl (lv_at hl 1 rfl) ?_
              refine lv_iload hx hb dX3_mixedWithHand_52 (lv_at hl 3 rfl) ?_
              refine ro_V (As := [.int (nI h), .int (nI k)]) (h0 := ad 0 0) (rest := [.long d2]) (v := c.Wr h k) hx hb hml hown hC hS hAb (mX3_wrongs_g l hX h k (by first | assumption | omega | (simp only [decide_eq_false_iff_not, decide_eq_true_eq] at *; omega)) (by first | assumption | omega | (simp only [decide_eq_false_iff_not, decide_eq_true_eq] at *; omega))) kV_X3_378 ⟨rfl, rfl⟩ ⟨Nat.le_of_ble_eq_true rfl, Nat.le_of_ble_eq_true rfl⟩ (hP.recv hC cX_0 rfl) rfl hl (Nat.le_of_ble_eq_true rfl) ⟨Nat.zero_le _, Nat.zero_le _⟩ dX3_mixedWithHand_54 ?_
              refine ro_SL (As := [.long d2, .int (c.Wr h k)]) (rest := []) (v := d2 * 31 + (c.Wr h k).toInt64) hx hb hml hown hC hS hAb (mX3_mixed l d2 (c.Wr h k) ) kS_X3_348 ⟨rfl, rfl⟩ ⟨Nat.le_of_ble_eq_true rfl, Nat.le_of_ble_eq_true rfl⟩ rfl hl (Nat.le_of_ble_eq_true rfl) ⟨Nat.zero_le _, Nat.zero_le _⟩ dX3_mixedWithHand_57 ?_
              refine lv_lstore (lv' := [(4, .long (d2 * 31 + (c.Wr h k).toInt64)), (0, .ref (ad 0 0)), (3, .int (nI h)), (6, .int (nI k))]) hx hb dX3_mixedWithHand_60 hl (by decide) rfl (fun ls hl => ?_)
              refine lv_iincN (v := 1) (lv' := [(6, .int (nI (k + 1))), (4, .long (d2 * 31 + (c.Wr h k).toInt64)), (0, .ref (ad 0 0)), (3, .int (nI h))]) hx hb dX3_mixedWithHand_62 hl (k := 3) rfl (by decide) (by decide) rfl (fun ls hl => ?_)
              refine lv_goto (tgt := 36) hx hb dX3_mixedWithHand_65 (by decide) ?_
              exact ih36 (k + 1) (d2 * 31 + (c.Wr h k).toInt64) (by first | rfl | assumption | omega | (simp [c_10, c_45]; done) | (simp_all [c_10, c_45]; done)) (by rw [ha]; rfl) (by omega) _ (lv_sub hl [2, 3, 1, 0] rfl)
        exact lp36 (c.R 10 1 - 0 + 1) 0 d2 (by first | rfl | assumption | omega | (simp [c_10]; done) | (simp_all [c_10]; done)) (by rw [ha, show k = 11 by omega]; rfl) (Nat.lt_succ_self _) _ (lv_sub hl [1, 2, 3, 0] rfl)
      · skip
        refine lv_lload hx hb dX3_mixedWithHand_13 (lv_at hl 2 rfl) ?_
        refine lv_aload_n hx hb dX3_mixedWithHand_15 rfl (lv_at hl 0 rfl) ?_
        refine lv_iload_n hx hb dX3_mixedWithHand_16 rfl (lv_at hl 1 rfl) ?_
        refine lv_iload hx hb dX3_mixedWithHand_17 (lv_at hl 3 rfl) ?_
        refine ro_V (As := [.int (nI h), .int (nI k)]) (h0 := ad 0 0) (rest := [.long d2]) (v := ohS c h (nI k)) hx hb hml hown hC hS hAb (mX3_ofHand_g l hX h k (by first | assumption | omega | (simp only [decide_eq_false_iff_not, decide_eq_true_eq] at *; omega)) (by first | assumption | omega | (simp only [decide_eq_false_iff_not, decide_eq_true_eq] at *; omega))) kV_X3_375 ⟨rfl, rfl⟩ ⟨Nat.le_of_ble_eq_true rfl, Nat.le_of_ble_eq_true rfl⟩ (hP.recv hC cX_0 rfl) rfl hl (Nat.le_of_ble_eq_true rfl) ⟨Nat.zero_le _, Nat.zero_le _⟩ dX3_mixedWithHand_19 ?_
        refine ro_SL (As := [.long d2, .int (ohS c h (nI k))]) (rest := []) (v := d2 * 31 + (ohS c h (nI k)).toInt64) hx hb hml hown hC hS hAb (mX3_mixed l d2 (ohS c h (nI k)) ) kS_X3_348 ⟨rfl, rfl⟩ ⟨Nat.le_of_ble_eq_true rfl, Nat.le_of_ble_eq_true rfl⟩ rfl hl (Nat.le_of_ble_eq_true rfl) ⟨Nat.zero_le _, Nat.zero_le _⟩ dX3_mixedWithHand_22 ?_
        refine lv_lstore (lv' := [(4, .long (d2 * 31 + (ohS c h (nI k)).toInt64)), (0, .ref (ad 0 0)), (3, .int (nI h)), (6, .int (nI k))]) hx hb dX3_mixedWithHand_25 hl (by decide) rfl (fun ls hl => ?_)
        refine lv_iincN (v := 1) (lv' := [(6, .int (nI (k + 1))), (4, .long (d2 * 31 + (ohS c h (nI k)).toInt64)), (0, .ref (ad 0 0)), (3, .int (nI h))]) hx hb dX3_mixedWithHand_27 hl (k := 3) rfl (by decide) (by decide) rfl (fun ls hl => ?_)
        refine lv_goto (tgt := 6) hx hb dX3_mixedWithHand_30 (by decide) ?_
        exact ih6 (k + 1) (d2 * 31 + (ohS c h (nI k)).toInt64) (by first | rfl | assumption | omega | (simp [c_10]; done) | (simp_all [c_10]; done)) (by rw [ha]; rfl) (by omega) _ (lv_sub hl [2, 3, 1, 0] rfl)
  exact lp6 (11 - 0 + 1) 0 d (by first | rfl | assumption | omega | (simp []; done) | (simp_all []; done)) (rfl) (Nat.lt_succ_self _) _ (lv_sub hl [2, 4, 1, 0] rfl)
set_option maxHeartbeats 4000000 in
set_option maxRecDepth 100000 in
theorem mX3_digest (l : Launch) {E : En} {c : Cy} {ly : Ly} {L : List Nat} {ad : Nat → Nat → Nat} {H : Heap} (hX : PX E c ly L ad H)   : RoL l yX3_digest cX3_digest 5 (rmk 7 0 0 160) [.ref (ad 0 0)] E H (dgS c) := by
  obtain ⟨hP, hly, hLb, wf⟩ := id hX
  refine ro_of (by decide) (Nat.le_of_ble_eq_true rfl) ?_
  intro p e s m below meth co ls hx hb hr hml hown hlocks hnm hC hU hl
  have hS : va_S noA s.heap H [] := by rw [hU]; exact va_S.rf
  have hAb : ∀ q, noA q → bA E q := fun _ h => h.elim
  have hl : lv_has ls 5 [(0, .ref (ad 0 0))] := hl
  refine lv_ldc2 (v := 58232) hx hb hown (hC.2.1.at (List.mem_append_right _ (List.mem_of_getElem? (i := 625) (by decide +kernel))) (by decide +kernel) _) dX3_digest_0 ?_
  refine lv_lstore_n (lv' := [(1, .long 58232), (0, .ref (ad 0 0))]) hx hb dX3_digest_3 rfl hl (by decide) rfl (fun ls hl => ?_)
  refine lv_iconstN hx hb 0 dX3_digest_4 (by decide) ?_
  refine lv_istore_n (lv' := [(3, .int (nI 0)), (1, .long 58232), (0, .ref (ad 0 0))]) hx hb dX3_digest_5 rfl hl (by decide) rfl (fun ls hl => ?_)
  have lp6 : ∀ fu : Nat, ∀ (k : Nat) (d2 : Int64), k ≤ 12 → d2 = mixL (fun k => maS c (nI k)) k (58232) → 12 - k < fu → ∀ ls : Array Slot, lv_has ls 5 [(0, .ref (ad 0 0)), (1, .long d2), (3, .int (nI k))] → W p l e (rmk 7 0 0 160) s m ([.ref (ad 0 0)] : List Value).toArray below meth co H [] 0 0 (MQ below (QlR (dgS c) H) ([.ref (ad 0 0)] : List Value).toArray s 0 0 noA) (F0 m 6 ls []) := by
    intro fu
    induction fu with
    | zero => intro k d2 hk ha hfu; exact absurd hfu (Nat.not_lt_zero _)
    | succ fu ih6 =>
      intro k d2 hk ha hfu ls hl
      refine lv_iload_n hx hb dX3_digest_6 rfl (lv_at hl 2 rfl) ?_
      refine lv_bipushN hx hb 11 dX3_digest_7 (by decide) ?_
      refine lv_icmpN_gt (tgt := 28) hx hb dX3_digest_9 (by decide) (by omega) (by omega) (fun c_9 => ?_) (fun c_9 => ?_)
      · skip
        refine lv_iconstN hx hb 0 dX3_digest_28 (by decide) ?_
        refine lv_istore_n (lv' := [(3, .int (nI 0)), (0, .ref (ad 0 0)), (1, .long d2)]) hx hb dX3_digest_29 rfl hl (by decide) rfl (fun ls hl => ?_)
        have lp30 : ∀ fu : Nat, ∀ (k : Nat) (d2 : Int64), k ≤ c.R 10 0 → d2 = runL (mwS c) k (mixL (fun k => maS c (nI k)) 12 58232) → c.R 10 0 - k < fu → ∀ ls : Array Slot, lv_has ls 5 [(0, .ref (ad 0 0)), (1, .long d2), (3, .int (nI k))] → W p l e (rmk 7 0 0 160) s m ([.ref (ad 0 0)] : List Value).toArray below meth co H [] 0 0 (MQ below (QlR (dgS c) H) ([.ref (ad 0 0)] : List Value).toArray s 0 0 noA) (F0 m 30 ls []) := by
          intro fu
          induction fu with
          | zero => intro k d2 hk ha hfu; exact absurd hfu (Nat.not_lt_zero _)
          | succ fu ih30 =>
            intro k d2 hk ha hfu ls hl
            refine lv_iload_n hx hb dX3_digest_30 rfl (lv_at hl 2 rfl) ?_
            refine lv_aload_n hx hb dX3_digest_31 rfl (lv_at hl 0 rfl) ?_
            refine pi_get hx hb hC hown hP fL_X3_10 0 0 cX_0 (v := .ref (ad 1 0)) rfl dX3_digest_32 ?_
            refine ro_V (As := []) (h0 := ad 1 0) (rest := [.int (nI k)]) (v := nI (c.R 10 0)) hx hb hml hown hC hS hAb (mJ_size l hP 0 (cX_1 (by decide))) kV_X3_43 ⟨rfl, rfl⟩ ⟨Nat.le_of_ble_eq_true rfl, Nat.le_of_ble_eq_true rfl⟩ (hP.recv hC (cX_1 (i := 0) (by decide)) rfl) rfl hl (Nat.le_of_ble_eq_true rfl) ⟨Nat.zero_le _, Nat.zero_le _⟩ dX3_digest_35 ?_
            have g_1 := wf.sw
            have g_2 := wf.nw
            refine lv_icmpN_ge (tgt := 54) hx hb dX3_digest_38 (by decide) (by omega) (by omega) (fun c_38 => ?_) (fun c_38 => ?_)
            · skip
              refine lv_iconstN hx hb 0 dX3_digest_54 (by decide) ?_
              refine lv_istore_n (lv' := [(3, .int (nI 0)), (0, .ref (ad 0 0)), (1, .long d2)]) hx hb dX3_digest_55 rfl hl (by decide) rfl (fun ls hl => ?_)
              have lp56 : ∀ fu : Nat, ∀ (k : Nat) (d2 : Int64), k ≤ c.R 10 1 → d2 = runL (mhS c) k (dg1 c) → c.R 10 1 - k < fu → ∀ ls : Array Slot, lv_has ls 5 [(0, .ref (ad 0 0)), (1, .long d2), (3, .int (nI k))] → W p l e (rmk 7 0 0 160) s m ([.ref (ad 0 0)] : List Value).toArray below meth co H [] 0 0 (MQ below (QlR (dgS c) H) ([.ref (ad 0 0)] : List Value).toArray s 0 0 noA) (F0 m 56 ls []) := by
                intro fu
                induction fu with
                | zero => intro k d2 hk ha hfu; exact absurd hfu (Nat.not_lt_zero _)
                | succ fu ih56 =>
                  intro k d2 hk ha hfu ls hl
                  refine lv_iload_n hx hb dX3_digest_56 rfl (lv_at hl 2 rfl) ?_
                  refine lv_aload_n hx hb dX3_digest_57 rfl (lv_at hl 0 rfl) ?_
                  refine pi_get hx hb hC hown hP fL_X3_16 0 0 cX_0 (v := .ref (ad 1 1)) rfl dX3_digest_58 ?_
                  refine ro_V (As := []) (h0 := ad 1 1) (rest := [.int (nI k)]) (v := nI (c.R 10 1)) hx hb hml hown hC hS hAb (mJ_size l hP 1 (cX_1 (by decide))) kV_X3_43 ⟨rfl, rfl⟩ ⟨Nat.le_of_ble_eq_true rfl, Nat.le_of_ble_eq_true rfl⟩ (hP.recv hC (cX_1 (i := 1) (by decide)) rfl) rfl hl (Nat.le_of_ble_eq_true rfl) ⟨Nat.zero_le _, Nat.zero_le _⟩ dX3_digest_61 ?_
                  have g_3 := wf.sh'
                  have g_4 := wf.nh
                  refine lv_icmpN_ge (tgt := 80) hx hb dX3_digest_64 (by decide) (by omega) (by omega) (fun c_64 => ?_) (fun c_64 => ?_)
                  · skip
                    refine lv_iconstN hx hb 0 dX3_digest_80 (by decide) ?_
                    refine lv_istore_n (lv' := [(3, .int (nI 0)), (0, .ref (ad 0 0)), (1, .long d2)]) hx hb dX3_digest_81 rfl hl (by decide) rfl (fun ls hl => ?_)
                    have lp82 : ∀ fu : Nat, ∀ (k : Nat) (d2 : Int64), k ≤ c.R 10 2 → d2 = runL (mlS c) k (dg2 c) → c.R 10 2 - k < fu → ∀ ls : Array Slot, lv_has ls 5 [(0, .ref (ad 0 0)), (1, .long d2), (3, .int (nI k))] → W p l e (rmk 7 0 0 160) s m ([.ref (ad 0 0)] : List Value).toArray below meth co H [] 0 0 (MQ below (QlR (dgS c) H) ([.ref (ad 0 0)] : List Value).toArray s 0 0 noA) (F0 m 82 ls []) := by
                      intro fu
                      induction fu with
                      | zero => intro k d2 hk ha hfu; exact absurd hfu (Nat.not_lt_zero _)
                      | succ fu ih82 =>
                        intro k d2 hk ha hfu ls hl
                        refine lv_iload_n hx hb dX3_digest_82 rfl (lv_at hl 2 rfl) ?_
                        refine lv_aload_n hx hb dX3_digest_83 rfl (lv_at hl 0 rfl) ?_
                        refine pi_get hx hb hC hown hP fL_X3_19 0 0 cX_0 (v := .ref (ad 1 2)) rfl dX3_digest_84 ?_
                        refine ro_V (As := []) (h0 := ad 1 2) (rest := [.int (nI k)]) (v := nI (c.R 10 2)) hx hb hml hown hC hS hAb (mJ_size l hP 2 (cX_1 (by decide))) kV_X3_43 ⟨rfl, rfl⟩ ⟨Nat.le_of_ble_eq_true rfl, Nat.le_of_ble_eq_true rfl⟩ (hP.recv hC (cX_1 (i := 2) (by decide)) rfl) rfl hl (Nat.le_of_ble_eq_true rfl) ⟨Nat.zero_le _, Nat.zero_le _⟩ dX3_digest_87 ?_
                        have g_5 := wf.sl
                        have g_6 := wf.nl
                        refine lv_icmpN_ge (tgt := 127) hx hb dX3_digest_90 (by decide) (by omega) (by omega) (fun c_90 => ?_) (fun c_90 => ?_)
                        · skip
                          refine lv_lload_n hx hb dX3_digest_127 rfl (lv_at hl 1 rfl) ?_
                          refine lv_aload_n hx hb dX3_digest_128 rfl (lv_at hl 0 rfl) ?_
                          refine ro_V (As := []) (h0 := ad 0 0) (rest := [.long d2]) (v := nbS c) hx hb hml hown hC hS hAb (mX3_nextBuff l hX  ) kV_X3_362 ⟨rfl, rfl⟩ ⟨Nat.le_of_ble_eq_true rfl, Nat.le_of_ble_eq_true rfl⟩ (hP.recv hC cX_0 rfl) rfl hl (Nat.le_of_ble_eq_true rfl) ⟨Nat.zero_le _, Nat.zero_le _⟩ dX3_digest_129 ?_
                          refine ro_SL (As := [.long d2, .int (nbS c)]) (rest := []) (v := d2 * 31 + (nbS c).toInt64) hx hb hml hown hC hS hAb (mX3_mixed l d2 (nbS c) ) kS_X3_348 ⟨rfl, rfl⟩ ⟨Nat.le_of_ble_eq_true rfl, Nat.le_of_ble_eq_true rfl⟩ rfl hl (Nat.le_of_ble_eq_true rfl) ⟨Nat.zero_le _, Nat.zero_le _⟩ dX3_digest_132 ?_
                          refine lv_lstore_n (lv' := [(1, .long (d2 * 31 + (nbS c).toInt64)), (0, .ref (ad 0 0)), (3, .int (nI k))]) hx hb dX3_digest_135 rfl hl (by decide) rfl (fun ls hl => ?_)
                          refine lv_aload_n hx hb dX3_digest_136 rfl (lv_at hl 1 rfl) ?_
                          refine pi_get hx hb hC hown hP fL_X3_16 0 0 cX_0 (v := .ref (ad 1 1)) rfl dX3_digest_137 ?_
                          refine ro_V (As := []) (h0 := ad 1 1) (rest := []) (v := bI (decide (c.R 10 1 = 0))) hx hb hml hown hC hS hAb (mJ_isEmpty l hP 1 (cX_1 (by decide)) (by have := wf.sw; have := wf.sh'; have := wf.sl; have := wf.nw; have := wf.nh; have := wf.nl; omega)) kV_X3_324 ⟨rfl, rfl⟩ ⟨Nat.le_of_ble_eq_true rfl, Nat.le_of_ble_eq_true rfl⟩ (hP.recv hC (cX_1 (i := 1) (by decide)) rfl) rfl hl (Nat.le_of_ble_eq_true rfl) ⟨Nat.zero_le _, Nat.zero_le _⟩ dX3_digest_140 ?_
                          refine lv_bif_ne (tgt := 169) hx hb dX3_digest_143 (by decide) (fun c_143 => ?_) (fun c_143 => ?_)
                          · skip
                            refine lv_lload_n hx hb dX3_digest_169 rfl (lv_at hl 0 rfl) ?_
                            exact ro_lret (x := d2 * 31 + (nbS c).toInt64) hx hb hr hlocks hU (by rw [ha, show k = c.R 10 2 by omega]; simp only [dgS]; first | (rw [if_pos (by simp_all)]; rfl) | (rw [if_neg (by simp_all)]; rfl)) dX3_digest_170
                          · skip
                            refine lv_aload_n hx hb dX3_digest_146 rfl (lv_at hl 1 rfl) ?_
                            refine pi_get hx hb hC hown hP fL_X3_10 0 0 cX_0 (v := .ref (ad 1 0)) rfl dX3_digest_147 ?_
                            refine ro_V (As := []) (h0 := ad 1 0) (rest := []) (v := bI (decide (c.R 10 0 = 0))) hx hb hml hown hC hS hAb (mJ_isEmpty l hP 0 (cX_1 (by decide)) (by have := wf.sw; have := wf.sh'; have := wf.sl; have := wf.nw; have := wf.nh; have := wf.nl; omega)) kV_X3_324 ⟨rfl, rfl⟩ ⟨Nat.le_of_ble_eq_true rfl, Nat.le_of_ble_eq_true rfl⟩ (hP.recv hC (cX_1 (i := 0) (by decide)) rfl) rfl hl (Nat.le_of_ble_eq_true rfl) ⟨Nat.zero_le _, Nat.zero_le _⟩ dX3_digest_150 ?_
                            refine lv_bif_ne (tgt := 169) hx hb dX3_digest_153 (by decide) (fun c_153 => ?_) (fun c_153 => ?_)
                            · skip
                              refine lv_lload_n hx hb dX3_digest_169 rfl (lv_at hl 0 rfl) ?_
                              exact ro_lret (x := d2 * 31 + (nbS c).toInt64) hx hb hr hlocks hU (by rw [ha, show k = c.R 10 2 by omega]; simp only [dgS]; first | (rw [if_pos (by simp_all)]; rfl) | (rw [if_neg (by simp_all)]; rfl)) dX3_digest_170
                            · skip
                              refine lv_lload_n hx hb dX3_digest_156 rfl (lv_at hl 0 rfl) ?_
                              refine lv_aload_n hx hb dX3_digest_157 rfl (lv_at hl 1 rfl) ?_
                              refine lv_iconstN hx hb 0 dX3_digest_158 (by decide) ?_
                              refine lv_iconstN hx hb 0 dX3_digest_159 (by decide) ?_
                              refine lv_iconstN hx hb 2 dX3_digest_160 (by decide) ?_
                              refine lv_iconstN hx hb 1 dX3_digest_161 (by decide) ?_
                              refine ro_V (As := [.int (nI 0), .int (nI 0), .int (nI 2), .int (nI 1)]) (h0 := ad 0 0) (rest := [.long (d2 * 31 + (nbS c).toInt64)]) (v := bfS c 0 0 2 1) hx hb hml hown hC hS hAb (mX3_bestFrom_g l hX 0 0 2 1 (by first | assumption | omega | (simp only [decide_eq_false_iff_not, decide_eq_true_eq] at *; omega)) (by first | assumption | omega | (simp only [decide_eq_false_iff_not, decide_eq_true_eq] at *; omega)) (by first | assumption | omega | (simp only [decide_eq_false_iff_not, decide_eq_true_eq] at *; omega)) (by first | assumption | omega | (simp only [decide_eq_false_iff_not, decide_eq_true_eq] at *; omega)) (by first | assumption | omega | (simp only [decide_eq_false_iff_not, decide_eq_true_eq] at *; omega))) kV_X3_365 ⟨rfl, rfl⟩ ⟨Nat.le_of_ble_eq_true rfl, Nat.le_of_ble_eq_true rfl⟩ (hP.recv hC cX_0 rfl) rfl hl (Nat.le_of_ble_eq_true rfl) ⟨Nat.zero_le _, Nat.zero_le _⟩ dX3_digest_162 ?_
                              refine ro_SL (As := [.long (d2 * 31 + (nbS c).toInt64), .int (bfS c 0 0 2 1)]) (rest := []) (v := (d2 * 31 + (nbS c).toInt64) * 31 + (bfS c 0 0 2 1).toInt64) hx hb hml hown hC hS hAb (mX3_mixed l (d2 * 31 + (nbS c).toInt64) (bfS c 0 0 2 1) ) kS_X3_348 ⟨rfl, rfl⟩ ⟨Nat.le_of_ble_eq_true rfl, Nat.le_of_ble_eq_true rfl⟩ rfl hl (Nat.le_of_ble_eq_true rfl) ⟨Nat.zero_le _, Nat.zero_le _⟩ dX3_digest_165 ?_
                              refine lv_lstore_n (lv' := [(1, .long ((d2 * 31 + (nbS c).toInt64) * 31 + (bfS c 0 0 2 1).toInt64)), (0, .ref (ad 0 0)), (3, .int (nI k))]) hx hb dX3_digest_168 rfl hl (by decide) rfl (fun ls hl => ?_)
                              refine lv_lload_n hx hb dX3_digest_169 rfl (lv_at hl 0 rfl) ?_
                              exact ro_lret (x := (d2 * 31 + (nbS c).toInt64) * 31 + (bfS c 0 0 2 1).toInt64) hx hb hr hlocks hU (by rw [ha, show k = c.R 10 2 by omega]; simp only [dgS]; first | (rw [if_pos (by simp_all)]; rfl) | (rw [if_neg (by simp_all)]; rfl)) dX3_digest_170
                        · skip
                          refine lv_iconstN hx hb 0 dX3_digest_93 (by decide) ?_
                          refine lv_istore (lv' := [(4, .int (nI 0)), (0, .ref (ad 0 0)), (1, .long d2), (3, .int (nI k))]) hx hb dX3_digest_94 hl (by decide) rfl (fun ls hl => ?_)
                          have lp96 : ∀ fu : Nat, ∀ (k2 : Nat) (d3 : Int64), k2 ≤ 14 → d3 = mixL (fun q => olS c k (nI q)) k2 d2 → 14 - k2 < fu → ∀ ls : Array Slot, lv_has ls 5 [(0, .ref (ad 0 0)), (1, .long d3), (3, .int (nI k)), (4, .int (nI k2))] → W p l e (rmk 7 0 0 160) s m ([.ref (ad 0 0)] : List Value).toArray below meth co H [] 0 0 (MQ below (QlR (dgS c) H) ([.ref (ad 0 0)] : List Value).toArray s 0 0 noA) (F0 m 96 ls []) := by
                            intro fu
                            induction fu with
                            | zero => intro k2 d3 hk2 ha2 hfu; exact absurd hfu (Nat.not_lt_zero _)
                            | succ fu ih96 =>
                              intro k2 d3 hk2 ha2 hfu ls hl
                              refine lv_iload hx hb dX3_digest_96 (lv_at hl 3 rfl) ?_
                              refine lv_bipushN hx hb 13 dX3_digest_98 (by decide) ?_
                              refine lv_icmpN_gt (tgt := 121) hx hb dX3_digest_100 (by decide) (by omega) (by omega) (fun c_100 => ?_) (fun c_100 => ?_)
                              · skip
                                refine lv_iincN (v := 1) (lv' := [(3, .int (nI (k + 1))), (0, .ref (ad 0 0)), (1, .long d3), (4, .int (nI k2))]) hx hb dX3_digest_121 hl (k := 2) rfl (by decide) (by decide) rfl (fun ls hl => ?_)
                                refine lv_goto (tgt := 82) hx hb dX3_digest_124 (by decide) ?_
                                exact ih82 (k + 1) d3 (by first | rfl | assumption | omega | (simp [c_9, c_38, c_64, c_90, c_100]; done) | (simp_all [c_9, c_38, c_64, c_90, c_100]; done)) (by rw [ha2, ha, show k2 = 14 by omega]; rfl) (by omega) _ (lv_sub hl [1, 2, 0] rfl)
                              · skip
                                refine lv_lload_n hx hb dX3_digest_103 rfl (lv_at hl 1 rfl) ?_
                                refine lv_aload_n hx hb dX3_digest_104 rfl (lv_at hl 0 rfl) ?_
                                refine lv_iload_n hx hb dX3_digest_105 rfl (lv_at hl 2 rfl) ?_
                                refine lv_iload hx hb dX3_digest_106 (lv_at hl 3 rfl) ?_
                                refine ro_V (As := [.int (nI k), .int (nI k2)]) (h0 := ad 0 0) (rest := [.long d3]) (v := olS c k (nI k2)) hx hb hml hown hC hS hAb (mX3_ofLayer_g l hX k k2 (by first | assumption | omega | (simp only [decide_eq_false_iff_not, decide_eq_true_eq] at *; omega)) (by first | assumption | omega | (simp only [decide_eq_false_iff_not, decide_eq_true_eq] at *; omega))) kV_X3_358 ⟨rfl, rfl⟩ ⟨Nat.le_of_ble_eq_true rfl, Nat.le_of_ble_eq_true rfl⟩ (hP.recv hC cX_0 rfl) rfl hl (Nat.le_of_ble_eq_true rfl) ⟨Nat.zero_le _, Nat.zero_le _⟩ dX3_digest_108 ?_
                                refine ro_SL (As := [.long d3, .int (olS c k (nI k2))]) (rest := []) (v := d3 * 31 + (olS c k (nI k2)).toInt64) hx hb hml hown hC hS hAb (mX3_mixed l d3 (olS c k (nI k2)) ) kS_X3_348 ⟨rfl, rfl⟩ ⟨Nat.le_of_ble_eq_true rfl, Nat.le_of_ble_eq_true rfl⟩ rfl hl (Nat.le_of_ble_eq_true rfl) ⟨Nat.zero_le _, Nat.zero_le _⟩ dX3_digest_111 ?_
                                refine lv_lstore_n (lv' := [(1, .long (d3 * 31 + (olS c k (nI k2)).toInt64)), (0, .ref (ad 0 0)), (3, .int (nI k)), (4, .int (nI k2))]) hx hb dX3_digest_114 rfl hl (by decide) rfl (fun ls hl => ?_)
                                refine lv_iincN (v := 1) (lv' := [(4, .int (nI (k2 + 1))), (1, .long (d3 * 31 + (olS c k (nI k2)).toInt64)), (0, .ref (ad 0 0)), (3, .int (nI k))]) hx hb dX3_digest_115 hl (k := 3) rfl (by decide) (by decide) rfl (fun ls hl => ?_)
                                refine lv_goto (tgt := 96) hx hb dX3_digest_118 (by decide) ?_
                                exact ih96 (k2 + 1) (d3 * 31 + (olS c k (nI k2)).toInt64) (by first | rfl | assumption | omega | (simp [c_9, c_38, c_64, c_90, c_100]; done) | (simp_all [c_9, c_38, c_64, c_90, c_100]; done)) (by rw [ha2]; rfl) (by omega) _ (lv_sub hl [2, 1, 3, 0] rfl)
                          exact lp96 (14 - 0 + 1) 0 d2 (by first | rfl | assumption | omega | (simp [c_9, c_38, c_64, c_90]; done) | (simp_all [c_9, c_38, c_64, c_90]; done)) (rfl) (Nat.lt_succ_self _) _ (lv_sub hl [1, 2, 3, 0] rfl)
                    exact lp82 (c.R 10 2 - 0 + 1) 0 d2 (by first | rfl | assumption | omega | (simp [c_9, c_38, c_64]; done) | (simp_all [c_9, c_38, c_64]; done)) (by rw [ha, show k = c.R 10 1 by omega]; rfl) (Nat.lt_succ_self _) _ (lv_sub hl [1, 2, 0] rfl)
                  · skip
                    refine lv_aload_n hx hb dX3_digest_67 rfl (lv_at hl 0 rfl) ?_
                    refine lv_lload_n hx hb dX3_digest_68 rfl (lv_at hl 1 rfl) ?_
                    refine lv_iload_n hx hb dX3_digest_69 rfl (lv_at hl 2 rfl) ?_
                    refine ro_VL (As := [.long d2, .int (nI k)]) (h0 := ad 0 0) (rest := []) (v := mhS c k d2) hx hb hml hown hC hS hAb (mX3_mixedWithHand l hX d2 k (by first | assumption | omega | (simp only [decide_eq_false_iff_not, decide_eq_true_eq] at *; omega))) kV_X3_355 ⟨rfl, rfl⟩ ⟨Nat.le_of_ble_eq_true rfl, Nat.le_of_ble_eq_true rfl⟩ (hP.recv hC cX_0 rfl) rfl hl (Nat.le_of_ble_eq_true rfl) ⟨Nat.zero_le _, Nat.zero_le _⟩ dX3_digest_70 ?_
                    refine lv_lstore_n (lv' := [(1, .long (mhS c k d2)), (0, .ref (ad 0 0)), (3, .int (nI k))]) hx hb dX3_digest_73 rfl hl (by decide) rfl (fun ls hl => ?_)
                    refine lv_iincN (v := 1) (lv' := [(3, .int (nI (k + 1))), (1, .long (mhS c k d2)), (0, .ref (ad 0 0))]) hx hb dX3_digest_74 hl (k := 2) rfl (by decide) (by decide) rfl (fun ls hl => ?_)
                    refine lv_goto (tgt := 56) hx hb dX3_digest_77 (by decide) ?_
                    exact ih56 (k + 1) (mhS c k d2) (by first | rfl | assumption | omega | (simp [c_9, c_38, c_64]; done) | (simp_all [c_9, c_38, c_64]; done)) (by rw [ha]; rfl) (by omega) _ (lv_sub hl [2, 1, 0] rfl)
              exact lp56 (c.R 10 1 - 0 + 1) 0 d2 (by first | rfl | assumption | omega | (simp [c_9, c_38]; done) | (simp_all [c_9, c_38]; done)) (by rw [ha, show k = c.R 10 0 by omega]; rfl) (Nat.lt_succ_self _) _ (lv_sub hl [1, 2, 0] rfl)
            · skip
              refine lv_aload_n hx hb dX3_digest_41 rfl (lv_at hl 0 rfl) ?_
              refine lv_lload_n hx hb dX3_digest_42 rfl (lv_at hl 1 rfl) ?_
              refine lv_iload_n hx hb dX3_digest_43 rfl (lv_at hl 2 rfl) ?_
              refine ro_VL (As := [.long d2, .int (nI k)]) (h0 := ad 0 0) (rest := []) (v := mwS c k d2) hx hb hml hown hC hS hAb (mX3_mixedWithWall l hX d2 k (by first | assumption | omega | (simp only [decide_eq_false_iff_not, decide_eq_true_eq] at *; omega))) kV_X3_352 ⟨rfl, rfl⟩ ⟨Nat.le_of_ble_eq_true rfl, Nat.le_of_ble_eq_true rfl⟩ (hP.recv hC cX_0 rfl) rfl hl (Nat.le_of_ble_eq_true rfl) ⟨Nat.zero_le _, Nat.zero_le _⟩ dX3_digest_44 ?_
              refine lv_lstore_n (lv' := [(1, .long (mwS c k d2)), (0, .ref (ad 0 0)), (3, .int (nI k))]) hx hb dX3_digest_47 rfl hl (by decide) rfl (fun ls hl => ?_)
              refine lv_iincN (v := 1) (lv' := [(3, .int (nI (k + 1))), (1, .long (mwS c k d2)), (0, .ref (ad 0 0))]) hx hb dX3_digest_48 hl (k := 2) rfl (by decide) (by decide) rfl (fun ls hl => ?_)
              refine lv_goto (tgt := 30) hx hb dX3_digest_51 (by decide) ?_
              exact ih30 (k + 1) (mwS c k d2) (by first | rfl | assumption | omega | (simp [c_9, c_38]; done) | (simp_all [c_9, c_38]; done)) (by rw [ha]; rfl) (by omega) _ (lv_sub hl [2, 1, 0] rfl)
        exact lp30 (c.R 10 0 - 0 + 1) 0 d2 (by first | rfl | assumption | omega | (simp [c_9]; done) | (simp_all [c_9]; done)) (by rw [ha, show k = 12 by omega]; rfl) (Nat.lt_succ_self _) _ (lv_sub hl [1, 2, 0] rfl)
      · skip
        refine lv_lload_n hx hb dX3_digest_12 rfl (lv_at hl 1 rfl) ?_
        refine lv_aload_n hx hb dX3_digest_13 rfl (lv_at hl 0 rfl) ?_
        refine lv_iload_n hx hb dX3_digest_14 rfl (lv_at hl 2 rfl) ?_
        refine ro_V (As := [.int (nI k)]) (h0 := ad 0 0) (rest := [.long d2]) (v := maS c (nI k)) hx hb hml hown hC hS hAb (mX3_many_g l hX k (by first | assumption | omega | (simp only [decide_eq_false_iff_not, decide_eq_true_eq] at *; omega))) kV_X3_345 ⟨rfl, rfl⟩ ⟨Nat.le_of_ble_eq_true rfl, Nat.le_of_ble_eq_true rfl⟩ (hP.recv hC cX_0 rfl) rfl hl (Nat.le_of_ble_eq_true rfl) ⟨Nat.zero_le _, Nat.zero_le _⟩ dX3_digest_15 ?_
        refine ro_SL (As := [.long d2, .int (maS c (nI k))]) (rest := []) (v := d2 * 31 + (maS c (nI k)).toInt64) hx hb hml hown hC hS hAb (mX3_mixed l d2 (maS c (nI k)) ) kS_X3_348 ⟨rfl, rfl⟩ ⟨Nat.le_of_ble_eq_true rfl, Nat.le_of_ble_eq_true rfl⟩ rfl hl (Nat.le_of_ble_eq_true rfl) ⟨Nat.zero_le _, Nat.zero_le _⟩ dX3_digest_18 ?_
        refine lv_lstore_n (lv' := [(1, .long (d2 * 31 + (maS c (nI k)).toInt64)), (0, .ref (ad 0 0)), (3, .int (nI k))]) hx hb dX3_digest_21 rfl hl (by decide) rfl (fun ls hl => ?_)
        refine lv_iincN (v := 1) (lv' := [(3, .int (nI (k + 1))), (1, .long (d2 * 31 + (maS c (nI k)).toInt64)), (0, .ref (ad 0 0))]) hx hb dX3_digest_22 hl (k := 2) rfl (by decide) (by decide) rfl (fun ls hl => ?_)
        refine lv_goto (tgt := 6) hx hb dX3_digest_25 (by decide) ?_
        exact ih6 (k + 1) (d2 * 31 + (maS c (nI k)).toInt64) (by first | rfl | assumption | omega | (simp [c_9]; done) | (simp_all [c_9]; done)) (by rw [ha]; rfl) (by omega) _ (lv_sub hl [2, 1, 0] rfl)
  exact lp6 (12 - 0 + 1) 0 58232 (by first | rfl | assumption | omega | (simp []; done) | (simp_all []; done)) (rfl) (Nat.lt_succ_self _) _ (lv_sub hl [2, 1, 0] rfl)
