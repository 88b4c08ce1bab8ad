/-! isPainted -/
section PTQ
variable {c : Cy} {h i f u kd : Nat}
theorem pt_100 : (ptC c h i f u kd (nI 0)).R 10 0 = c.R 10 0 := pt_Ro (by omega) (by omega)
theorem pt_101 : (ptC c h i f u kd (nI 0)).R 10 1 = c.R 10 1 := pt_Ro (by omega) (by omega)
theorem pt_R1 {z : Nat} : (ptC c h i f u kd (nI 0)).R 1 z = c.R 1 z := pt_Ro (by omega) (by omega)
theorem pt_R0 : (ptC c h i f u kd (nI 0)).R 0 0 = c.R 0 0 := pt_Ro (by omega) (by omega)
theorem pt_w0 : (ptC c h i f u kd (nI 0)).Wr h h = c.Wr h h := dw_hh u
end PTQ
def pnF (c : Cy) (h i f u kd : Nat) (F : Nat → Int32) : Nat → Int32 := if 360 - c.R 3 h < u * mcS c h kd ∨ 60 ≤ c.R 10 2 then F else upd F h (F h + ((ptC c h i f u kd (nI 0)).I 13 h - c.I 13 h) * nI (20 + 10 * kd))
theorem pn_GI {c : Cy} {g : Nat → Int32} {hs t : Nat} {F : Nat → Int32} {h i f u kd : Nat} (wf : WF c) (G : GI c g hs F t) (hh : h < hs) (hi : i < 3) (hf : f + u ≤ c.R 1 i) : GI (pnC c h i f u kd) g hs (pnF c h i f u kd F) (t + 1) := by
  unfold pnC pnF
  split
  · exact G.keep
  · exact pt_GI wf G hh hi hf
set_option maxHeartbeats 8000000 in
set_option maxRecDepth 100000 in
theorem mL_isPainted (l : Launch) (hst : l.stackTraces = false) {E : En} {x : Nat} {cy : Cy} {Ks : List Nat} {H0 : Heap} {af hs : Nat} {F : Nat → Int32} (hW : CW E x cy (af :: Ks) H0) (hI_af : iA E af hs F H0) (hA_af : fL E Ks af) {g : Nat → Int32} {t : Nat} (G : GI cy g hs F t) (h i f u kd : Nat) (hh : h < hs) (hi : i < 3) (hf : f + u ≤ cy.R 1 i) (hu : 1 ≤ u) (hkd : kd < 4) : LwB l yL_isPainted cL_isPainted 16 [(76, 94, 98, 106)] (rmk 8 2 211 232) [.ref x, .int (nI h), .int (nI i), .int (nI f), .int (nI u), .int (nI kd), .ref af, .int (nI hs)] E H0 (bI true) (fun H1 => CW E x (pnC cy h i f u kd) (af :: Ks) H1 ∧ iA E af hs (pnF cy h i f u kd F) H1) (fL E Ks) 2 211 := by
  have wf := hW.wf
  have hw3 := G.nw
  have hw1 := G.nw1
  have hwh := G.nh
  have hwh1 := G.nh1
  have hwl := G.nl
  have hwl6 := wf.nl
  have hwh8 := wf.nh
  have hi1 : i < cy.R 11 0 := by omega
  have hh1 : h < cy.R 11 1 := by omega
  have hwd := wf.wd hi1
  have hus := wf.us hh1
  have hnt := wf.nt
  have hcw := cwr_le cy h i f u kd
  refine lw_of (by decide) (Nat.le_of_ble_eq_true rfl) ?_
  intro p e s m below meth co ls hx hb hr hml hown hlocks htab hC hU hl
  have hS : va_S (fL E Ks) s.heap H0 [] := by rw [hU]; exact va_S.rf
  have hAb : ∀ q, fL E Ks q → bA E q := fun q h => h.1
  have hl : lv_has ls 16 [(0, .ref x), (1, .int (nI h)), (2, .int (nI i)), (3, .int (nI f)), (4, .int (nI u)), (5, .int (nI kd)), (6, .ref af), (7, .int (nI hs))] := hl
  refine lv_aload_n hx hb dL_isPainted_0 rfl (lv_at hl 0 rfl) ?_
  refine lv_iconstN hx hb 3 dL_isPainted_1 (by decide) ?_
  refine la_V (As := [.int (nI 3)]) (rest := []) (v := nI (cy.R 10 2)) hx hb hml hown hC hS hAb hW (fun ly L ad hX => RoI.cast ma3 (mX3_many_g l hX 3 (show 3 ≤ 11 by first | assumption | omega))) kV_L_29 ⟨rfl, rfl⟩ ⟨Nat.le_of_ble_eq_true rfl, Nat.le_of_ble_eq_true rfl⟩ rfl hl (Nat.le_of_ble_eq_true rfl) ⟨show 0 ≤ (2 : Nat) by omega, show 0 ≤ (211 : Nat) by omega⟩ dL_isPainted_2 ?_
  refine lv_istore (lv' := [(8, .int (nI (cy.R 10 2))), (0, .ref x), (1, .int (nI h)), (2, .int (nI i)), (3, .int (nI f)), (4, .int (nI u)), (5, .int (nI kd)), (6, .ref af), (7, .int (nI hs))]) hx hb dL_isPainted_5 hl (by decide) rfl (fun ls hl => ?_)
  refine lv_aload_n hx hb dL_isPainted_7 rfl (lv_at hl 1 rfl) ?_
  refine lv_iload_n hx hb dL_isPainted_8 rfl (lv_at hl 2 rfl) ?_
  refine lv_iconstN hx hb 1 dL_isPainted_9 (by decide) ?_
  refine la_V (As := [.int (nI h), .int (nI 1)]) (rest := []) (v := nI (360 - cy.R 3 h)) hx hb hml hown hC hS hAb hW (fun ly L ad hX => RoI.cast oh1 (mX3_ofHand_g l hX h 1 (show h < cy.R 10 1 by first | assumption | omega) (show 1 ≤ 10 by first | assumption | omega))) kV_L_68 ⟨rfl, rfl⟩ ⟨Nat.le_of_ble_eq_true rfl, Nat.le_of_ble_eq_true rfl⟩ rfl hl (Nat.le_of_ble_eq_true rfl) ⟨show 0 ≤ (2 : Nat) by omega, show 0 ≤ (211 : Nat) by omega⟩ dL_isPainted_10 ?_
  refine lv_istore (lv' := [(9, .int (nI (360 - cy.R 3 h))), (8, .int (nI (cy.R 10 2))), (0, .ref x), (1, .int (nI h)), (2, .int (nI i)), (3, .int (nI f)), (4, .int (nI u)), (5, .int (nI kd)), (6, .ref af), (7, .int (nI hs))]) hx hb dL_isPainted_13 hl (by decide) rfl (fun ls hl => ?_)
  refine lv_aload_n hx hb dL_isPainted_15 rfl (lv_at hl 2 rfl) ?_
  refine lv_iload_n hx hb dL_isPainted_16 rfl (lv_at hl 3 rfl) ?_
  refine lv_iload_n hx hb dL_isPainted_17 rfl (lv_at hl 4 rfl) ?_
  refine lv_iload_n hx hb dL_isPainted_18 rfl (lv_at hl 5 rfl) ?_
  refine lv_iload hx hb dL_isPainted_19 (lv_at hl 6 rfl) ?_
  refine lv_iload hx hb dL_isPainted_21 (lv_at hl 7 rfl) ?_
  refine la_V (As := [.int (nI h), .int (nI i), .int (nI f), .int (nI u), .int (nI kd)]) (rest := []) (v := nI (cwrS cy h i f u kd)) hx hb hml hown hC hS hAb hW (fun ly L ad hX => mX3_wouldWrong_g l hX h i f u kd (show h < cy.R 10 1 by first | assumption | omega) (show i < cy.R 10 0 by first | assumption | omega) (show f + u ≤ cy.R 1 i by first | assumption | omega) (show 1 ≤ u by first | assumption | omega) (show kd < 4 by first | assumption | omega)) kV_L_89 ⟨rfl, rfl⟩ ⟨Nat.le_of_ble_eq_true rfl, Nat.le_of_ble_eq_true rfl⟩ rfl hl (Nat.le_of_ble_eq_true rfl) ⟨show 0 ≤ (2 : Nat) by omega, show 0 ≤ (211 : Nat) by omega⟩ dL_isPainted_23 ?_
  refine lv_istore (lv' := [(10, .int (nI (cwrS cy h i f u kd))), (9, .int (nI (360 - cy.R 3 h))), (8, .int (nI (cy.R 10 2))), (0, .ref x), (1, .int (nI h)), (2, .int (nI i)), (3, .int (nI f)), (4, .int (nI u)), (5, .int (nI kd)), (6, .ref af), (7, .int (nI hs))]) hx hb dL_isPainted_26 hl (by decide) rfl (fun ls hl => ?_)
  refine lv_aload_n hx hb dL_isPainted_28 rfl (lv_at hl 3 rfl) ?_
  refine lv_iload_n hx hb dL_isPainted_29 rfl (lv_at hl 4 rfl) ?_
  refine lv_bipushN hx hb 7 dL_isPainted_30 (by decide) ?_
  refine la_V (As := [.int (nI h), .int (nI 7)]) (rest := []) (v := smI (cy.Wr h) 8) hx hb hml hown hC hS hAb hW (fun ly L ad hX => RoI.cast oh7 (mX3_ofHand_g l hX h 7 (show h < cy.R 10 1 by first | assumption | omega) (show 7 ≤ 10 by first | assumption | omega))) kV_L_68 ⟨rfl, rfl⟩ ⟨Nat.le_of_ble_eq_true rfl, Nat.le_of_ble_eq_true rfl⟩ rfl hl (Nat.le_of_ble_eq_true rfl) ⟨show 0 ≤ (2 : Nat) by omega, show 0 ≤ (211 : Nat) by omega⟩ dL_isPainted_32 ?_
  refine lv_istore (lv' := [(11, .int (smI (cy.Wr h) 8)), (10, .int (nI (cwrS cy h i f u kd))), (9, .int (nI (360 - cy.R 3 h))), (8, .int (nI (cy.R 10 2))), (0, .ref x), (1, .int (nI h)), (2, .int (nI i)), (3, .int (nI f)), (4, .int (nI u)), (5, .int (nI kd)), (6, .ref af), (7, .int (nI hs))]) hx hb dL_isPainted_35 hl (by decide) rfl (fun ls hl => ?_)
  refine lv_aload_n hx hb dL_isPainted_37 rfl (lv_at hl 4 rfl) ?_
  refine lv_iload_n hx hb dL_isPainted_38 rfl (lv_at hl 5 rfl) ?_
  refine lv_iload_n hx hb dL_isPainted_39 rfl (lv_at hl 5 rfl) ?_
  refine la_V (As := [.int (nI h), .int (nI h)]) (rest := []) (v := nI 0) hx hb hml hown hC hS hAb hW (fun ly L ad hX => RoI.cast (G.ow hh) (mX3_wrongs_g l hX h h (show h < cy.R 10 1 by first | assumption | omega) (show h < cy.R 10 1 by first | assumption | omega))) kV_L_108 ⟨rfl, rfl⟩ ⟨Nat.le_of_ble_eq_true rfl, Nat.le_of_ble_eq_true rfl⟩ rfl hl (Nat.le_of_ble_eq_true rfl) ⟨show 0 ≤ (2 : Nat) by omega, show 0 ≤ (211 : Nat) by omega⟩ dL_isPainted_40 ?_
  refine lv_istore (lv' := [(12, .int (nI 0)), (11, .int (smI (cy.Wr h) 8)), (10, .int (nI (cwrS cy h i f u kd))), (9, .int (nI (360 - cy.R 3 h))), (8, .int (nI (cy.R 10 2))), (0, .ref x), (1, .int (nI h)), (2, .int (nI i)), (3, .int (nI f)), (4, .int (nI u)), (5, .int (nI kd)), (6, .ref af), (7, .int (nI hs))]) hx hb dL_isPainted_43 hl (by decide) rfl (fun ls hl => ?_)
  refine lv_aload_n hx hb dL_isPainted_45 rfl (lv_at hl 5 rfl) ?_
  refine lv_iload_n hx hb dL_isPainted_46 rfl (lv_at hl 6 rfl) ?_
  refine lv_bipushN hx hb 10 dL_isPainted_47 (by decide) ?_
  refine la_V (As := [.int (nI h), .int (nI 10)]) (rest := []) (v := cy.I 13 h) hx hb hml hown hC hS hAb hW (fun ly L ad hX => RoI.cast oh10 (mX3_ofHand_g l hX h 10 (show h < cy.R 10 1 by first | assumption | omega) (show 10 ≤ 10 by first | assumption | omega))) kV_L_68 ⟨rfl, rfl⟩ ⟨Nat.le_of_ble_eq_true rfl, Nat.le_of_ble_eq_true rfl⟩ rfl hl (Nat.le_of_ble_eq_true rfl) ⟨show 0 ≤ (2 : Nat) by omega, show 0 ≤ (211 : Nat) by omega⟩ dL_isPainted_49 ?_
  refine lv_istore (lv' := [(13, .int (cy.I 13 h)), (12, .int (nI 0)), (11, .int (smI (cy.Wr h) 8)), (10, .int (nI (cwrS cy h i f u kd))), (9, .int (nI (360 - cy.R 3 h))), (8, .int (nI (cy.R 10 2))), (0, .ref x), (1, .int (nI h)), (2, .int (nI i)), (3, .int (nI f)), (4, .int (nI u)), (5, .int (nI kd)), (6, .ref af), (7, .int (nI hs))]) hx hb dL_isPainted_52 hl (by decide) rfl (fun ls hl => ?_)
  refine lv_aload_n hx hb dL_isPainted_54 rfl (lv_at hl 6 rfl) ?_
  refine lv_iload_n hx hb dL_isPainted_55 rfl (lv_at hl 8 rfl) ?_
  refine lv_iconstN hx hb 3 dL_isPainted_56 (by decide) ?_
  refine la_V (As := [.int (nI i), .int (nI 3)]) (rest := []) (v := pcS cy i (nI (cy.R 0 0))) hx hb hml hown hC hS hAb hW (fun ly L ad hX => RoI.cast ow3 (mX3_ofWall_g l hX i 3 (show i < cy.R 10 0 by first | assumption | omega) (show 3 ≤ 6 by first | assumption | omega))) kV_L_42 ⟨rfl, rfl⟩ ⟨Nat.le_of_ble_eq_true rfl, Nat.le_of_ble_eq_true rfl⟩ rfl hl (Nat.le_of_ble_eq_true rfl) ⟨show 0 ≤ (2 : Nat) by omega, show 0 ≤ (211 : Nat) by omega⟩ dL_isPainted_57 ?_
  refine lv_aload_n hx hb dL_isPainted_60 rfl (lv_at hl 6 rfl) ?_
  refine lv_iload_n hx hb dL_isPainted_61 rfl (lv_at hl 7 rfl) ?_
  refine lv_iconstN hx hb 0 dL_isPainted_62 (by decide) ?_
  refine la_V (As := [.int (nI h), .int (nI 0)]) (rest := [.int (pcS cy i (nI (cy.R 0 0)))]) (v := cy.I 8 h) hx hb hml hown hC hS hAb hW (fun ly L ad hX => RoI.cast oh0 (mX3_ofHand_g l hX h 0 (show h < cy.R 10 1 by first | assumption | omega) (show 0 ≤ 10 by first | assumption | omega))) kV_L_68 ⟨rfl, rfl⟩ ⟨Nat.le_of_ble_eq_true rfl, Nat.le_of_ble_eq_true rfl⟩ rfl hl (Nat.le_of_ble_eq_true rfl) ⟨show 0 ≤ (2 : Nat) by omega, show 0 ≤ (211 : Nat) by omega⟩ dL_isPainted_63 ?_
  refine lv_icmp_ne (tgt := 73) hx hb dL_isPainted_66 (by decide) (fun c_66 => ?_) (fun c_66 => ?_)
  · skip
    have hp : permS cy h i = false := decide_eq_false c_66
    refine lv_iconstN hx hb 0 dL_isPainted_73 (by decide) ?_
    refine lv_istore (lv' := [(14, .int (nI 0)), (13, .int (cy.I 13 h)), (12, .int (nI 0)), (11, .int (smI (cy.Wr h) 8)), (10, .int (nI (cwrS cy h i f u kd))), (9, .int (nI (360 - cy.R 3 h))), (8, .int (nI (cy.R 10 2))), (0, .ref x), (1, .int (nI h)), (2, .int (nI i)), (3, .int (nI f)), (4, .int (nI u)), (5, .int (nI kd)), (6, .ref af), (7, .int (nI hs))]) hx hb dL_isPainted_74 hl (by decide) rfl (fun ls hl => ?_)
    refine lv_aload_n hx hb dL_isPainted_76 rfl (lv_at hl 7 rfl) ?_
    refine lv_iload_n hx hb dL_isPainted_77 rfl (lv_at hl 8 rfl) ?_
    refine lv_iload_n hx hb dL_isPainted_78 rfl (lv_at hl 9 rfl) ?_
    refine lv_iload_n hx hb dL_isPainted_79 rfl (lv_at hl 10 rfl) ?_
    refine lv_iload hx hb dL_isPainted_80 (lv_at hl 11 rfl) ?_
    refine lv_iload hx hb dL_isPainted_82 (lv_at hl 12 rfl) ?_
    refine lv_iconstN hx hb 0 dL_isPainted_84 (by decide) ?_
    by_cases hc : 360 - cy.R 3 h < u * mcS cy h kd ∨ 60 ≤ cy.R 10 2
    · skip
      refine lt_V (xs := fun _ => xIS) (As := [.int (nI h), .int (nI i), .int (nI f), .int (nI u), .int (nI kd), .int (nI 0)]) (rest := []) hx hb hml hown hC hS hAb hW (fun ly L ad hX => mX3_paint_b4 l hst hX h i f u kd (nI 0) (show h < cy.R 10 1 by first | assumption | omega) (show i < cy.R 10 0 by first | assumption | omega) (has_t wf hi1 hf hu) (by omega) (show kd < 4 by first | assumption | omega) (by decide) hc) kV_L_111 ⟨Nat.le_of_ble_eq_true rfl, Nat.le_of_ble_eq_true rfl⟩ rfl hl (Nat.le_of_ble_eq_true rfl) ⟨show 0 + 1 ≤ (2 : Nat) by omega, show 0 + 6 ≤ (211 : Nat) by omega⟩ dL_isPainted_85 (fun q9 ce H hW hS hz hk hce hcv hcl => ?_)
      have hI_af := hI_af.kept (hk af hI_af.lt)
      refine vx_catch hown (tableOf []) ⟨76, 94, 98, 106⟩ (tableOf []) (htab.trans rfl) (fun z hz => absurd hz List.not_mem_nil) rfl (by decide) (hC.2.1.hts _ _ wCl_L_106) (cs_xIS hC) hce hcv hcl ?_
      refine lv_astore (lv' := [(15, .ref q9), (14, .int (nI 0)), (13, .int (cy.I 13 h)), (12, .int (nI 0)), (11, .int (smI (cy.Wr h) 8)), (10, .int (nI (cwrS cy h i f u kd))), (9, .int (nI (360 - cy.R 3 h))), (8, .int (nI (cy.R 10 2))), (0, .ref x), (1, .int (nI h)), (2, .int (nI i)), (3, .int (nI f)), (4, .int (nI u)), (5, .int (nI kd)), (6, .ref af), (7, .int (nI hs))]) hx hb dL_isPainted_98 hl (by decide) rfl (fun ls hl => ?_)
      refine lv_aload_n hx hb dL_isPainted_100 rfl (lv_at hl 8 rfl) ?_
      refine lv_iconstN hx hb 3 dL_isPainted_101 (by decide) ?_
      refine la_V (As := [.int (nI 3)]) (rest := []) (v := nI (cy.R 10 2)) hx hb hml hown hC hS hAb hW (fun ly L ad hX => RoI.cast ma3 (mX3_many_g l hX 3 (show 3 ≤ 11 by first | assumption | omega))) kV_L_29 ⟨rfl, rfl⟩ ⟨Nat.le_of_ble_eq_true rfl, Nat.le_of_ble_eq_true rfl⟩ rfl hl (Nat.le_of_ble_eq_true rfl) ⟨show 1 ≤ (2 : Nat) by omega, show 6 ≤ (211 : Nat) by omega⟩ dL_isPainted_102 ?_
      refine lv_iload hx hb dL_isPainted_105 (lv_at hl 7 rfl) ?_
      refine lv_icmpN_ne (tgt := 142) hx hb dL_isPainted_107 (by decide) (by omega) (by omega) (fun c_107 => ?_) (fun c_107 => ?_)
      · skip
        exact absurd rfl c_107
      · skip
        refine lv_aload_n hx hb dL_isPainted_110 rfl (lv_at hl 8 rfl) ?_
        refine lv_iload_n hx hb dL_isPainted_111 rfl (lv_at hl 9 rfl) ?_
        refine lv_iconstN hx hb 1 dL_isPainted_112 (by decide) ?_
        refine la_V (As := [.int (nI h), .int (nI 1)]) (rest := []) (v := nI (360 - cy.R 3 h)) hx hb hml hown hC hS hAb hW (fun ly L ad hX => RoI.cast oh1 (mX3_ofHand_g l hX h 1 (show h < cy.R 10 1 by first | assumption | omega) (show 1 ≤ 10 by first | assumption | omega))) kV_L_68 ⟨rfl, rfl⟩ ⟨Nat.le_of_ble_eq_true rfl, Nat.le_of_ble_eq_true rfl⟩ rfl hl (Nat.le_of_ble_eq_true rfl) ⟨show 1 ≤ (2 : Nat) by omega, show 6 ≤ (211 : Nat) by omega⟩ dL_isPainted_113 ?_
        refine lv_iload hx hb dL_isPainted_116 (lv_at hl 6 rfl) ?_
        refine lv_icmpN_ne (tgt := 142) hx hb dL_isPainted_118 (by decide) (by omega) (by omega) (fun c_118 => ?_) (fun c_118 => ?_)
        · skip
          exact absurd rfl c_118
        · skip
          refine lv_iload hx hb dL_isPainted_121 (lv_at hl 7 rfl) ?_
          refine lv_bipushN hx hb 60 dL_isPainted_123 (by decide) ?_
          refine lv_icmpN_eq (tgt := 138) hx hb dL_isPainted_125 (by decide) (by omega) (by omega) (fun c_125 => ?_) (fun c_125 => ?_)
          · skip
            refine lv_iconstN hx hb 1 dL_isPainted_138 (by decide) ?_
            refine lv_goto (tgt := 143) hx hb dL_isPainted_139 (by decide) ?_
            refine W.widen (k := 2) (n := 211) (by omega) (by omega) ?_
            exact mu_zretB (b1 := true) (b2 := true) hx hb hr hlocks hS (⟨by rw [show pnC cy h i f u kd = cy from if_pos hc]; exact hW, by rw [show pnF cy h i f u kd F = F from if_pos hc]; exact hI_af⟩) (by decide) rfl dL_isPainted_143
          · skip
            refine lv_iload hx hb dL_isPainted_128 (lv_at hl 6 rfl) ?_
            refine lv_bipushN hx hb 90 dL_isPainted_130 (by decide) ?_
            refine lv_iload hx hb dL_isPainted_132 (lv_at hl 12 rfl) ?_
            refine lv_imulN hx hb dL_isPainted_134 ?_
            refine lv_icmpN_ge (tgt := 142) hx hb dL_isPainted_135 (by decide) (by omega) (by omega) (fun c_135 => ?_) (fun c_135 => ?_)
            · skip
              rcases hc with z | z
              · have h9 := Nat.mul_le_mul_left u (mc_le2 (kd := kd) wf hh1).2
                omega
              · omega
            · skip
              refine lv_iconstN hx hb 1 dL_isPainted_138 (by decide) ?_
              refine lv_goto (tgt := 143) hx hb dL_isPainted_139 (by decide) ?_
              refine W.widen (k := 2) (n := 211) (by omega) (by omega) ?_
              exact mu_zretB (b1 := true) (b2 := true) hx hb hr hlocks hS (⟨by rw [show pnC cy h i f u kd = cy from if_pos hc]; exact hW, by rw [show pnF cy h i f u kd F = F from if_pos hc]; exact hI_af⟩) (by decide) rfl dL_isPainted_143
    · skip
      refine lu_M (c2 := ptC cy h i f u kd (nI 0)) (As := [.int (nI h), .int (nI i), .int (nI f), .int (nI u), .int (nI kd), .int (nI 0)]) (rest := []) (v := nI (cwrS cy h i f u kd)) hx hb hml hown hC hS hAb (fun q h => ⟨h.1, fun z => h.2 (List.mem_cons_of_mem _ z)⟩) hW (fun ly L ad hX => mX3_paint_g l hX h i f u kd (nI 0) (show h < cy.R 10 1 by first | assumption | omega) (show i < cy.R 10 0 by first | assumption | omega) (has_t wf hi1 hf hu) ⟨hu, by omega⟩ (show f + u ≤ cy.R 1 i by first | assumption | omega) (show kd < 4 by first | assumption | omega) (by decide) (Nat.not_lt.mp (fun z => hc (Or.inl z))) (Nat.not_le.mp (fun z => hc (Or.inr z))) G.nl) kV_L_111 ⟨rfl, rfl⟩ ⟨Nat.le_of_ble_eq_true rfl, Nat.le_of_ble_eq_true rfl⟩ rfl hl (Nat.le_of_ble_eq_true rfl) ⟨show 0 + 2 ≤ (2 : Nat) by omega, show 0 + 211 ≤ (211 : Nat) by omega⟩ dL_isPainted_85 (fun H locs hW hS hz hk => ?_)
      have hI_af := hI_af.kept (hk af (by simp))
      refine lv_iload hx hb dL_isPainted_88 (lv_at hl 4 rfl) ?_
      refine lv_icmpN_eq (tgt := 95) hx hb dL_isPainted_90 (by decide) (by omega) (by omega) (fun c_90 => ?_) (fun c_90 => ?_)
      · skip
        refine lv_goto (tgt := 144) hx hb dL_isPainted_95 (by decide) ?_
        refine lv_iload_n hx hb dL_isPainted_144 rfl (lv_at hl 10 rfl) ?_
        refine lv_istore (lv' := [(15, .int (nI f)), (14, .int (nI 0)), (13, .int (cy.I 13 h)), (12, .int (nI 0)), (11, .int (smI (cy.Wr h) 8)), (10, .int (nI (cwrS cy h i f u kd))), (9, .int (nI (360 - cy.R 3 h))), (8, .int (nI (cy.R 10 2))), (0, .ref x), (1, .int (nI h)), (2, .int (nI i)), (3, .int (nI f)), (4, .int (nI u)), (5, .int (nI kd)), (6, .ref af), (7, .int (nI hs))]) hx hb dL_isPainted_145 hl (by decide) rfl (fun ls hl => ?_)
        have lp147 : ∀ fu : Nat, ∀ (k : Nat), (f ≤ k) → (k ≤ f + u) → f + u - k < fu → ∀ ls : Array Slot, lv_has ls 16 [(0, .ref x), (1, .int (nI h)), (2, .int (nI i)), (3, .int (nI f)), (4, .int (nI u)), (5, .int (nI kd)), (6, .ref af), (8, .int (nI (cy.R 10 2))), (9, .int (nI (360 - cy.R 3 h))), (10, .int (nI (cwrS cy h i f u kd))), (11, .int (smI (cy.Wr h) 8)), (12, .int (nI 0)), (13, .int (cy.I 13 h)), (14, .int (nI 0)), (15, .int (nI k))] → W p l e (rmk 8 2 211 232) s m ([.ref x, .int (nI h), .int (nI i), .int (nI f), .int (nI u), .int (nI kd), .ref af, .int (nI hs)] : List Value).toArray below meth co H locs 2 211 (MQ below (QiM (bI true) (fun H1 => CW E x (pnC cy h i f u kd) (af :: Ks) H1 ∧ iA E af hs (pnF cy h i f u kd F) H1) (fL E Ks)) ([.ref x, .int (nI h), .int (nI i), .int (nI f), .int (nI u), .int (nI kd), .ref af, .int (nI hs)] : List Value).toArray s 2 211 (fL E Ks)) (F0 m 147 ls []) := by
          intro fu
          induction fu with
          | zero => intro k hk1 hk2 hfu; exact absurd hfu (Nat.not_lt_zero _)
          | succ fu ih147 =>
            intro k hk1 hk2 hfu ls hl
            refine lv_iload hx hb dL_isPainted_147 (lv_at hl 14 rfl) ?_
            refine lv_iload_n hx hb dL_isPainted_149 rfl (lv_at hl 3 rfl) ?_
            refine lv_iload hx hb dL_isPainted_150 (lv_at hl 4 rfl) ?_
            refine lv_iaddN hx hb dL_isPainted_152 ?_
            refine lv_icmpN_ge (tgt := 176) hx hb dL_isPainted_153 (by decide) (by omega) (by omega) (fun c_153 => ?_) (fun c_153 => ?_)
            · skip
              refine lv_aload_n hx hb dL_isPainted_176 rfl (lv_at hl 0 rfl) ?_
              refine lv_iload_n hx hb dL_isPainted_177 rfl (lv_at hl 1 rfl) ?_
              refine lv_bipushN hx hb 10 dL_isPainted_178 (by decide) ?_
              refine la_V (As := [.int (nI h), .int (nI 10)]) (rest := []) (v := (ptC cy h i f u kd (nI 0)).I 13 h) hx hb hml hown hC hS hAb hW (fun ly L ad hX => RoI.cast oh10 (mX3_ofHand_g l hX h 10 (show h < (ptC cy h i f u kd (nI 0)).R 10 1 by simp only [pt_100, pt_101, pt_10, pt_R1]; first | assumption | omega) (show 10 ≤ 10 by first | assumption | omega))) kV_L_68 ⟨rfl, rfl⟩ ⟨Nat.le_of_ble_eq_true rfl, Nat.le_of_ble_eq_true rfl⟩ rfl hl (Nat.le_of_ble_eq_true rfl) ⟨show 2 ≤ (2 : Nat) by omega, show 211 ≤ (211 : Nat) by omega⟩ dL_isPainted_180 ?_
              refine lv_iload hx hb dL_isPainted_183 (lv_at hl 12 rfl) ?_
              refine lv_isub hx hb dL_isPainted_185 ?_
              refine lv_istore (lv' := [(15, .int (((ptC cy h i f u kd (nI 0)).I 13 h) - (cy.I 13 h))), (0, .ref x), (1, .int (nI h)), (2, .int (nI i)), (3, .int (nI f)), (4, .int (nI u)), (5, .int (nI kd)), (6, .ref af), (8, .int (nI (cy.R 10 2))), (9, .int (nI (360 - cy.R 3 h))), (10, .int (nI (cwrS cy h i f u kd))), (11, .int (smI (cy.Wr h) 8)), (12, .int (nI 0)), (13, .int (cy.I 13 h)), (14, .int (nI 0))]) hx hb dL_isPainted_186 hl (by decide) rfl (fun ls hl => ?_)
              cases hk9 : ptK cy h i u kd with
              | false =>
                have hmore : (ptC cy h i f u kd (nI 0)).I 13 h - cy.I 13 h = nI 0 := by rw [pt_more, hk9]; rfl
                rw [hmore] at hl
                refine lv_aload hx hb dL_isPainted_188 (lv_at hl 7 rfl) ?_
                refine lv_iload_n hx hb dL_isPainted_190 rfl (lv_at hl 2 rfl) ?_
                refine lv_dup2_11 hx hb dL_isPainted_191 rfl rfl ?_
                refine li_ld hx hb hC hI_af (j := h) (by first | assumption | omega) (by omega) dL_isPainted_192 ?_
                refine lv_iload hx hb dL_isPainted_193 (lv_at hl 0 rfl) ?_
                refine lv_bipushN hx hb 20 dL_isPainted_195 (by decide) ?_
                refine lv_bipushN hx hb 10 dL_isPainted_197 (by decide) ?_
                refine lv_iload hx hb dL_isPainted_199 (lv_at hl 6 rfl) ?_
                refine lv_imulN hx hb dL_isPainted_201 ?_
                refine lv_iaddN hx hb dL_isPainted_202 ?_
                refine lv_imulN hx hb dL_isPainted_203 ?_
                refine lv_iadd hx hb dL_isPainted_204 ?_
                refine li_st (v := (F h) + (nI (0 * (20 + (10 * kd))))) hx hb hC hI_af hW hS hA_af (by simp) (j := h) (by first | assumption | omega) (by omega) dL_isPainted_205 (fun H locs hI_af hW hS hz hk => ?_)
                refine lv_iload hx hb dL_isPainted_206 (lv_at hl 0 rfl) ?_
                refine lv_if_lt (tgt := 242) hx hb dL_isPainted_208 (by decide) (fun c_208 => ?_) (fun c_208 => ?_)
                · skip
                  exact absurd c_208 (by decide)
                · skip
                  refine lv_iload hx hb dL_isPainted_211 (lv_at hl 0 rfl) ?_
                  refine lv_iconstN hx hb 1 dL_isPainted_213 (by decide) ?_
                  refine lv_icmpN_gt (tgt := 242) hx hb dL_isPainted_214 (by decide) (by omega) (by omega) (fun c_214 => ?_) (fun c_214 => ?_)
                  · skip
                    omega
                  · skip
                    refine lv_iload hx hb dL_isPainted_217 (lv_at hl 14 rfl) ?_
                    refine lv_ifN_eq (tgt := 227) hx hb dL_isPainted_219 (by decide) (by omega) (fun c_219 => ?_) (fun c_219 => ?_)
                    · skip
                      refine lv_iload hx hb dL_isPainted_227 (lv_at hl 0 rfl) ?_
                      refine lv_ifN_le (tgt := 244) hx hb dL_isPainted_229 (by decide) (by omega) (fun c_229 => ?_) (fun c_229 => ?_)
                      · skip
                        refine lv_aload_n hx hb dL_isPainted_244 rfl (lv_at hl 1 rfl) ?_
                        refine lv_iload_n hx hb dL_isPainted_245 rfl (lv_at hl 2 rfl) ?_
                        refine lv_bipushN hx hb 7 dL_isPainted_246 (by decide) ?_
                        refine la_V (As := [.int (nI h), .int (nI 7)]) (rest := []) (v := smI (cy.Wr h) 8 + nI (cwrS cy h i f u kd)) hx hb hml hown hC hS hAb hW (fun ly L ad hX => RoI.cast (oh7.trans (pt_wr wf hi1 hf)) (mX3_ofHand_g l hX h 7 (show h < (ptC cy h i f u kd (nI 0)).R 10 1 by simp only [pt_100, pt_101, pt_10, pt_R1]; first | assumption | omega) (show 7 ≤ 10 by first | assumption | omega))) kV_L_68 ⟨rfl, rfl⟩ ⟨Nat.le_of_ble_eq_true rfl, Nat.le_of_ble_eq_true rfl⟩ rfl hl (Nat.le_of_ble_eq_true rfl) ⟨show 2 ≤ (2 : Nat) by omega, show 211 ≤ (211 : Nat) by omega⟩ dL_isPainted_248 ?_
                        refine lv_iload hx hb dL_isPainted_251 (lv_at hl 11 rfl) ?_
                        refine lv_iload hx hb dL_isPainted_253 (lv_at hl 10 rfl) ?_
                        refine lv_iadd hx hb dL_isPainted_255 ?_
                        refine lv_icmp_ne (tgt := 344) hx hb dL_isPainted_256 (by decide) (fun c_256 => ?_) (fun c_256 => ?_)
                        · skip
                          exact absurd rfl c_256
                        · skip
                          refine lv_iload hx hb dL_isPainted_259 (lv_at hl 12 rfl) ?_
                          refine lv_ifN_ne (tgt := 344) hx hb dL_isPainted_261 (by decide) (by omega) (fun c_261 => ?_) (fun c_261 => ?_)
                          · skip
                            exact absurd c_261 (by decide)
                          · skip
                            refine lv_aload_n hx hb dL_isPainted_264 rfl (lv_at hl 1 rfl) ?_
                            refine lv_iload_n hx hb dL_isPainted_265 rfl (lv_at hl 2 rfl) ?_
                            refine lv_iload_n hx hb dL_isPainted_266 rfl (lv_at hl 2 rfl) ?_
                            refine la_V (As := [.int (nI h), .int (nI h)]) (rest := []) (v := nI 0) hx hb hml hown hC hS hAb hW (fun ly L ad hX => RoI.cast (pt_w0.trans (G.ow hh)) (mX3_wrongs_g l hX h h (show h < (ptC cy h i f u kd (nI 0)).R 10 1 by simp only [pt_100, pt_101, pt_10, pt_R1]; first | assumption | omega) (show h < (ptC cy h i f u kd (nI 0)).R 10 1 by simp only [pt_100, pt_101, pt_10, pt_R1]; first | assumption | omega))) kV_L_108 ⟨rfl, rfl⟩ ⟨Nat.le_of_ble_eq_true rfl, Nat.le_of_ble_eq_true rfl⟩ rfl hl (Nat.le_of_ble_eq_true rfl) ⟨show 2 ≤ (2 : Nat) by omega, show 211 ≤ (211 : Nat) by omega⟩ dL_isPainted_267 ?_
                            refine lv_ifN_ne (tgt := 344) hx hb dL_isPainted_270 (by decide) (by omega) (fun c_270 => ?_) (fun c_270 => ?_)
                            · skip
                              exact absurd c_270 (by decide)
                            · skip
                              refine lv_aload_n hx hb dL_isPainted_273 rfl (lv_at hl 1 rfl) ?_
                              refine lv_iload hx hb dL_isPainted_274 (lv_at hl 8 rfl) ?_
                              refine lv_bipushN hx hb 6 dL_isPainted_276 (by decide) ?_
                              refine la_V (As := [.int (nI (cy.R 10 2)), .int (nI 6)]) (rest := []) (v := nI 0) hx hb hml hown hC hS hAb hW (fun ly L ad hX => RoI.cast (ol6.trans (by rw [G.nl, pt_le, hp]; rfl)) (mX3_ofLayer_g l hX (cy.R 10 2) 6 (show (cy.R 10 2) < (ptC cy h i f u kd (nI 0)).R 10 2 by simp only [pt_100, pt_101, pt_10, pt_R1]; first | assumption | omega) (show 6 ≤ 13 by first | assumption | omega))) kV_L_55 ⟨rfl, rfl⟩ ⟨Nat.le_of_ble_eq_true rfl, Nat.le_of_ble_eq_true rfl⟩ rfl hl (Nat.le_of_ble_eq_true rfl) ⟨show 2 ≤ (2 : Nat) by omega, show 211 ≤ (211 : Nat) by omega⟩ dL_isPainted_278 ?_
                              refine lv_iload hx hb dL_isPainted_281 (lv_at hl 14 rfl) ?_
                              refine lv_ifN_eq (tgt := 290) hx hb dL_isPainted_283 (by decide) (by omega) (fun c_283 => ?_) (fun c_283 => ?_)
                              · skip
                                refine lv_iconstN hx hb 0 dL_isPainted_290 (by decide) ?_
                                refine lv_icmpN_ne (tgt := 344) hx hb dL_isPainted_291 (by decide) (by omega) (by omega) (fun c_291 => ?_) (fun c_291 => ?_)
                                · skip
                                  exact absurd rfl c_291
                                · skip
                                  refine lv_aload_n hx hb dL_isPainted_294 rfl (lv_at hl 1 rfl) ?_
                                  refine lv_iload hx hb dL_isPainted_295 (lv_at hl 8 rfl) ?_
                                  refine lv_bipushN hx hb 9 dL_isPainted_297 (by decide) ?_
                                  refine la_V (As := [.int (nI (cy.R 10 2)), .int (nI 9)]) (rest := []) (v := nI u) hx hb hml hown hC hS hAb hW (fun ly L ad hX => RoI.cast (ol9.trans (by rw [G.nl, pt_seen wf hi1 hf])) (mX3_ofLayer_g l hX (cy.R 10 2) 9 (show (cy.R 10 2) < (ptC cy h i f u kd (nI 0)).R 10 2 by simp only [pt_100, pt_101, pt_10, pt_R1]; first | assumption | omega) (show 9 ≤ 13 by first | assumption | omega))) kV_L_55 ⟨rfl, rfl⟩ ⟨Nat.le_of_ble_eq_true rfl, Nat.le_of_ble_eq_true rfl⟩ rfl hl (Nat.le_of_ble_eq_true rfl) ⟨show 2 ≤ (2 : Nat) by omega, show 211 ≤ (211 : Nat) by omega⟩ dL_isPainted_299 ?_
                                  refine lv_iload hx hb dL_isPainted_302 (lv_at hl 5 rfl) ?_
                                  refine lv_icmpN_ne (tgt := 344) hx hb dL_isPainted_304 (by decide) (by omega) (by omega) (fun c_304 => ?_) (fun c_304 => ?_)
                                  · skip
                                    exact absurd rfl c_304
                                  · skip
                                    refine lv_aload_n hx hb dL_isPainted_307 rfl (lv_at hl 1 rfl) ?_
                                    refine lv_iload_n hx hb dL_isPainted_308 rfl (lv_at hl 2 rfl) ?_
                                    refine lv_iconstN hx hb 1 dL_isPainted_309 (by decide) ?_
                                    refine la_V (As := [.int (nI h), .int (nI 1)]) (rest := []) (v := nI (360 - (cy.R 3 h + u * mcS cy h kd))) hx hb hml hown hC hS hAb hW (fun ly L ad hX => RoI.cast (oh1.trans (by rw [pt_3])) (mX3_ofHand_g l hX h 1 (show h < (ptC cy h i f u kd (nI 0)).R 10 1 by simp only [pt_100, pt_101, pt_10, pt_R1]; first | assumption | omega) (show 1 ≤ 10 by first | assumption | omega))) kV_L_68 ⟨rfl, rfl⟩ ⟨Nat.le_of_ble_eq_true rfl, Nat.le_of_ble_eq_true rfl⟩ rfl hl (Nat.le_of_ble_eq_true rfl) ⟨show 2 ≤ (2 : Nat) by omega, show 211 ≤ (211 : Nat) by omega⟩ dL_isPainted_310 ?_
                                    refine lv_iload hx hb dL_isPainted_313 (lv_at hl 9 rfl) ?_
                                    refine lv_icmpN_ge (tgt := 344) hx hb dL_isPainted_315 (by decide) (by omega) (by omega) (fun c_315 => ?_) (fun c_315 => ?_)
                                    · skip
                                      have h9 := Nat.mul_le_mul hu (mc_le2 (kd := kd) wf hh1).1; have h8 := Nat.not_lt.mp (fun z => hc (Or.inl z)); omega
                                    · skip
                                      refine lv_iload hx hb dL_isPainted_318 (lv_at hl 10 rfl) ?_
                                      refine lv_iload hx hb dL_isPainted_320 (lv_at hl 5 rfl) ?_
                                      refine lv_icmpN_gt (tgt := 344) hx hb dL_isPainted_322 (by decide) (by omega) (by omega) (fun c_322 => ?_) (fun c_322 => ?_)
                                      · skip
                                        omega
                                      · skip
                                        refine lv_aload_n hx hb dL_isPainted_325 rfl (lv_at hl 1 rfl) ?_
                                        refine lv_iload hx hb dL_isPainted_326 (lv_at hl 8 rfl) ?_
                                        refine lv_iconstN hx hb 5 dL_isPainted_328 (by decide) ?_
                                        refine la_V (As := [.int (nI (cy.R 10 2)), .int (nI 5)]) (rest := []) (v := nI (cy.R 0 0)) hx hb hml hown hC hS hAb hW (fun ly L ad hX => RoI.cast (ol5.trans (by rw [G.nl]; exact pt_ni)) (mX3_ofLayer_g l hX (cy.R 10 2) 5 (show (cy.R 10 2) < (ptC cy h i f u kd (nI 0)).R 10 2 by simp only [pt_100, pt_101, pt_10, pt_R1]; first | assumption | omega) (show 5 ≤ 13 by first | assumption | omega))) kV_L_55 ⟨rfl, rfl⟩ ⟨Nat.le_of_ble_eq_true rfl, Nat.le_of_ble_eq_true rfl⟩ rfl hl (Nat.le_of_ble_eq_true rfl) ⟨show 2 ≤ (2 : Nat) by omega, show 211 ≤ (211 : Nat) by omega⟩ dL_isPainted_329 ?_
                                        refine lv_aload_n hx hb dL_isPainted_332 rfl (lv_at hl 1 rfl) ?_
                                        refine lv_iconstN hx hb 0 dL_isPainted_333 (by decide) ?_
                                        refine la_V (As := [.int (nI 0)]) (rest := [.int (nI (cy.R 0 0))]) (v := nI (cy.R 0 0)) hx hb hml hown hC hS hAb hW (fun ly L ad hX => RoI.cast (ma0.trans (by rw [pt_R0])) (mX3_many_g l hX 0 (show 0 ≤ 11 by first | assumption | omega))) kV_L_29 ⟨rfl, rfl⟩ ⟨Nat.le_of_ble_eq_true rfl, Nat.le_of_ble_eq_true rfl⟩ rfl hl (Nat.le_of_ble_eq_true rfl) ⟨show 2 ≤ (2 : Nat) by omega, show 211 ≤ (211 : Nat) by omega⟩ dL_isPainted_334 ?_
                                        refine lv_icmpN_ne (tgt := 344) hx hb dL_isPainted_337 (by decide) (by omega) (by omega) (fun c_337 => ?_) (fun c_337 => ?_)
                                        · skip
                                          exact absurd rfl c_337
                                        · skip
                                          refine lv_iconstN hx hb 1 dL_isPainted_340 (by decide) ?_
                                          refine lv_goto (tgt := 345) hx hb dL_isPainted_341 (by decide) ?_
                                          exact mu_zretB (b1 := true) (b2 := true) hx hb hr hlocks hS (⟨by rw [show pnC cy h i f u kd = ptC cy h i f u kd (nI 0) from if_neg hc]; exact hW, by rw [show pnF cy h i f u kd F = upd F h ((F h) + (nI (0 * (20 + (10 * kd))))) from by unfold pnF; rw [if_neg hc, hmore, pk_mul]]; exact hI_af⟩) (by decide) rfl dL_isPainted_345
                              · skip
                                exact absurd c_283 (by decide)
                      · skip
                        omega
                    · skip
                      exact absurd c_219 (by decide)
              | true =>
                have hmore : (ptC cy h i f u kd (nI 0)).I 13 h - cy.I 13 h = nI 1 := by rw [pt_more, hk9]; rfl
                rw [hmore] at hl
                refine lv_aload hx hb dL_isPainted_188 (lv_at hl 7 rfl) ?_
                refine lv_iload_n hx hb dL_isPainted_190 rfl (lv_at hl 2 rfl) ?_
                refine lv_dup2_11 hx hb dL_isPainted_191 rfl rfl ?_
                refine li_ld hx hb hC hI_af (j := h) (by first | assumption | omega) (by omega) dL_isPainted_192 ?_
                refine lv_iload hx hb dL_isPainted_193 (lv_at hl 0 rfl) ?_
                refine lv_bipushN hx hb 20 dL_isPainted_195 (by decide) ?_
                refine lv_bipushN hx hb 10 dL_isPainted_197 (by decide) ?_
                refine lv_iload hx hb dL_isPainted_199 (lv_at hl 6 rfl) ?_
                refine lv_imulN hx hb dL_isPainted_201 ?_
                refine lv_iaddN hx hb dL_isPainted_202 ?_
                refine lv_imulN hx hb dL_isPainted_203 ?_
                refine lv_iadd hx hb dL_isPainted_204 ?_
                refine li_st (v := (F h) + (nI (1 * (20 + (10 * kd))))) hx hb hC hI_af hW hS hA_af (by simp) (j := h) (by first | assumption | omega) (by omega) dL_isPainted_205 (fun H locs hI_af hW hS hz hk => ?_)
                refine lv_iload hx hb dL_isPainted_206 (lv_at hl 0 rfl) ?_
                refine lv_if_lt (tgt := 242) hx hb dL_isPainted_208 (by decide) (fun c_208 => ?_) (fun c_208 => ?_)
                · skip
                  exact absurd c_208 (by decide)
                · skip
                  refine lv_iload hx hb dL_isPainted_211 (lv_at hl 0 rfl) ?_
                  refine lv_iconstN hx hb 1 dL_isPainted_213 (by decide) ?_
                  refine lv_icmpN_gt (tgt := 242) hx hb dL_isPainted_214 (by decide) (by omega) (by omega) (fun c_214 => ?_) (fun c_214 => ?_)
                  · skip
                    omega
                  · skip
                    refine lv_iload hx hb dL_isPainted_217 (lv_at hl 14 rfl) ?_
                    refine lv_ifN_eq (tgt := 227) hx hb dL_isPainted_219 (by decide) (by omega) (fun c_219 => ?_) (fun c_219 => ?_)
                    · skip
                      refine lv_iload hx hb dL_isPainted_227 (lv_at hl 0 rfl) ?_
                      refine lv_ifN_le (tgt := 244) hx hb dL_isPainted_229 (by decide) (by omega) (fun c_229 => ?_) (fun c_229 => ?_)
                      · skip
                        omega
                      · skip
                        refine lv_aload_n hx hb dL_isPainted_232 rfl (lv_at hl 1 rfl) ?_
                        refine lv_iload_n hx hb dL_isPainted_233 rfl (lv_at hl 2 rfl) ?_
                        refine lv_iconstN hx hb 3 dL_isPainted_234 (by decide) ?_
                        refine la_V (As := [.int (nI h), .int (nI 3)]) (rest := []) (v := nI 1) hx hb hml hown hC hS hAb hW (fun ly L ad hX => RoI.cast (oh3.trans (by rw [pt_kn, if_pos ⟨rfl, hk9⟩]; rfl)) (mX3_ofHand_g l hX h 3 (show h < (ptC cy h i f u kd (nI 0)).R 10 1 by simp only [pt_100, pt_101, pt_10, pt_R1]; first | assumption | omega) (show 3 ≤ 10 by first | assumption | omega))) kV_L_68 ⟨rfl, rfl⟩ ⟨Nat.le_of_ble_eq_true rfl, Nat.le_of_ble_eq_true rfl⟩ rfl hl (Nat.le_of_ble_eq_true rfl) ⟨show 2 ≤ (2 : Nat) by omega, show 211 ≤ (211 : Nat) by omega⟩ dL_isPainted_235 ?_
                        refine lv_iconstN hx hb 1 dL_isPainted_238 (by decide) ?_
                        refine lv_icmpN_eq (tgt := 244) hx hb dL_isPainted_239 (by decide) (by omega) (by omega) (fun c_239 => ?_) (fun c_239 => ?_)
                        · skip
                          refine lv_aload_n hx hb dL_isPainted_244 rfl (lv_at hl 1 rfl) ?_
                          refine lv_iload_n hx hb dL_isPainted_245 rfl (lv_at hl 2 rfl) ?_
                          refine lv_bipushN hx hb 7 dL_isPainted_246 (by decide) ?_
                          refine la_V (As := [.int (nI h), .int (nI 7)]) (rest := []) (v := smI (cy.Wr h) 8 + nI (cwrS cy h i f u kd)) hx hb hml hown hC hS hAb hW (fun ly L ad hX => RoI.cast (oh7.trans (pt_wr wf hi1 hf)) (mX3_ofHand_g l hX h 7 (show h < (ptC cy h i f u kd (nI 0)).R 10 1 by simp only [pt_100, pt_101, pt_10, pt_R1]; first | assumption | omega) (show 7 ≤ 10 by first | assumption | omega))) kV_L_68 ⟨rfl, rfl⟩ ⟨Nat.le_of_ble_eq_true rfl, Nat.le_of_ble_eq_true rfl⟩ rfl hl (Nat.le_of_ble_eq_true rfl) ⟨show 2 ≤ (2 : Nat) by omega, show 211 ≤ (211 : Nat) by omega⟩ dL_isPainted_248 ?_
                          refine lv_iload hx hb dL_isPainted_251 (lv_at hl 11 rfl) ?_
                          refine lv_iload hx hb dL_isPainted_253 (lv_at hl 10 rfl) ?_
                          refine lv_iadd hx hb dL_isPainted_255 ?_
                          refine lv_icmp_ne (tgt := 344) hx hb dL_isPainted_256 (by decide) (fun c_256 => ?_) (fun c_256 => ?_)
                          · skip
                            exact absurd rfl c_256
                          · skip
                            refine lv_iload hx hb dL_isPainted_259 (lv_at hl 12 rfl) ?_
                            refine lv_ifN_ne (tgt := 344) hx hb dL_isPainted_261 (by decide) (by omega) (fun c_261 => ?_) (fun c_261 => ?_)
                            · skip
                              exact absurd c_261 (by decide)
                            · skip
                              refine lv_aload_n hx hb dL_isPainted_264 rfl (lv_at hl 1 rfl) ?_
                              refine lv_iload_n hx hb dL_isPainted_265 rfl (lv_at hl 2 rfl) ?_
                              refine lv_iload_n hx hb dL_isPainted_266 rfl (lv_at hl 2 rfl) ?_
                              refine la_V (As := [.int (nI h), .int (nI h)]) (rest := []) (v := nI 0) hx hb hml hown hC hS hAb hW (fun ly L ad hX => RoI.cast (pt_w0.trans (G.ow hh)) (mX3_wrongs_g l hX h h (show h < (ptC cy h i f u kd (nI 0)).R 10 1 by simp only [pt_100, pt_101, pt_10, pt_R1]; first | assumption | omega) (show h < (ptC cy h i f u kd (nI 0)).R 10 1 by simp only [pt_100, pt_101, pt_10, pt_R1]; first | assumption | omega))) kV_L_108 ⟨rfl, rfl⟩ ⟨Nat.le_of_ble_eq_true rfl, Nat.le_of_ble_eq_true rfl⟩ rfl hl (Nat.le_of_ble_eq_true rfl) ⟨show 2 ≤ (2 : Nat) by omega, show 211 ≤ (211 : Nat) by omega⟩ dL_isPainted_267 ?_
                              refine lv_ifN_ne (tgt := 344) hx hb dL_isPainted_270 (by decide) (by omega) (fun c_270 => ?_) (fun c_270 => ?_)
                              · skip
                                exact absurd c_270 (by decide)
                              · skip
                                refine lv_aload_n hx hb dL_isPainted_273 rfl (lv_at hl 1 rfl) ?_
                                refine lv_iload hx hb dL_isPainted_274 (lv_at hl 8 rfl) ?_
                                refine lv_bipushN hx hb 6 dL_isPainted_276 (by decide) ?_
                                refine la_V (As := [.int (nI (cy.R 10 2)), .int (nI 6)]) (rest := []) (v := nI 0) hx hb hml hown hC hS hAb hW (fun ly L ad hX => RoI.cast (ol6.trans (by rw [G.nl, pt_le, hp]; rfl)) (mX3_ofLayer_g l hX (cy.R 10 2) 6 (show (cy.R 10 2) < (ptC cy h i f u kd (nI 0)).R 10 2 by simp only [pt_100, pt_101, pt_10, pt_R1]; first | assumption | omega) (show 6 ≤ 13 by first | assumption | omega))) kV_L_55 ⟨rfl, rfl⟩ ⟨Nat.le_of_ble_eq_true rfl, Nat.le_of_ble_eq_true rfl⟩ rfl hl (Nat.le_of_ble_eq_true rfl) ⟨show 2 ≤ (2 : Nat) by omega, show 211 ≤ (211 : Nat) by omega⟩ dL_isPainted_278 ?_
                                refine lv_iload hx hb dL_isPainted_281 (lv_at hl 14 rfl) ?_
                                refine lv_ifN_eq (tgt := 290) hx hb dL_isPainted_283 (by decide) (by omega) (fun c_283 => ?_) (fun c_283 => ?_)
                                · skip
                                  refine lv_iconstN hx hb 0 dL_isPainted_290 (by decide) ?_
                                  refine lv_icmpN_ne (tgt := 344) hx hb dL_isPainted_291 (by decide) (by omega) (by omega) (fun c_291 => ?_) (fun c_291 => ?_)
                                  · skip
                                    exact absurd rfl c_291
                                  · skip
                                    refine lv_aload_n hx hb dL_isPainted_294 rfl (lv_at hl 1 rfl) ?_
                                    refine lv_iload hx hb dL_isPainted_295 (lv_at hl 8 rfl) ?_
                                    refine lv_bipushN hx hb 9 dL_isPainted_297 (by decide) ?_
                                    refine la_V (As := [.int (nI (cy.R 10 2)), .int (nI 9)]) (rest := []) (v := nI u) hx hb hml hown hC hS hAb hW (fun ly L ad hX => RoI.cast (ol9.trans (by rw [G.nl, pt_seen wf hi1 hf])) (mX3_ofLayer_g l hX (cy.R 10 2) 9 (show (cy.R 10 2) < (ptC cy h i f u kd (nI 0)).R 10 2 by simp only [pt_100, pt_101, pt_10, pt_R1]; first | assumption | omega) (show 9 ≤ 13 by first | assumption | omega))) kV_L_55 ⟨rfl, rfl⟩ ⟨Nat.le_of_ble_eq_true rfl, Nat.le_of_ble_eq_true rfl⟩ rfl hl (Nat.le_of_ble_eq_true rfl) ⟨show 2 ≤ (2 : Nat) by omega, show 211 ≤ (211 : Nat) by omega⟩ dL_isPainted_299 ?_
                                    refine lv_iload hx hb dL_isPainted_302 (lv_at hl 5 rfl) ?_
                                    refine lv_icmpN_ne (tgt := 344) hx hb dL_isPainted_304 (by decide) (by omega) (by omega) (fun c_304 => ?_) (fun c_304 => ?_)
                                    · skip
                                      exact absurd rfl c_304
                                    · skip
                                      refine lv_aload_n hx hb dL_isPainted_307 rfl (lv_at hl 1 rfl) ?_
                                      refine lv_iload_n hx hb dL_isPainted_308 rfl (lv_at hl 2 rfl) ?_
                                      refine lv_iconstN hx hb 1 dL_isPainted_309 (by decide) ?_
                                      refine la_V (As := [.int (nI h), .int (nI 1)]) (rest := []) (v := nI (360 - (cy.R 3 h + u * mcS cy h kd))) hx hb hml hown hC hS hAb hW (fun ly L ad hX => RoI.cast (oh1.trans (by rw [pt_3])) (mX3_ofHand_g l hX h 1 (show h < (ptC cy h i f u kd (nI 0)).R 10 1 by simp only [pt_100, pt_101, pt_10, pt_R1]; first | assumption | omega) (show 1 ≤ 10 by first | assumption | omega))) kV_L_68 ⟨rfl, rfl⟩ ⟨Nat.le_of_ble_eq_true rfl, Nat.le_of_ble_eq_true rfl⟩ rfl hl (Nat.le_of_ble_eq_true rfl) ⟨show 2 ≤ (2 : Nat) by omega, show 211 ≤ (211 : Nat) by omega⟩ dL_isPainted_310 ?_
                                      refine lv_iload hx hb dL_isPainted_313 (lv_at hl 9 rfl) ?_
                                      refine lv_icmpN_ge (tgt := 344) hx hb dL_isPainted_315 (by decide) (by omega) (by omega) (fun c_315 => ?_) (fun c_315 => ?_)
                                      · skip
                                        have h9 := Nat.mul_le_mul hu (mc_le2 (kd := kd) wf hh1).1; have h8 := Nat.not_lt.mp (fun z => hc (Or.inl z)); omega
                                      · skip
                                        refine lv_iload hx hb dL_isPainted_318 (lv_at hl 10 rfl) ?_
                                        refine lv_iload hx hb dL_isPainted_320 (lv_at hl 5 rfl) ?_
                                        refine lv_icmpN_gt (tgt := 344) hx hb dL_isPainted_322 (by decide) (by omega) (by omega) (fun c_322 => ?_) (fun c_322 => ?_)
                                        · skip
                                          omega
                                        · skip
                                          refine lv_aload_n hx hb dL_isPainted_325 rfl (lv_at hl 1 rfl) ?_
                                          refine lv_iload hx hb dL_isPainted_326 (lv_at hl 8 rfl) ?_
                                          refine lv_iconstN hx hb 5 dL_isPainted_328 (by decide) ?_
                                          refine la_V (As := [.int (nI (cy.R 10 2)), .int (nI 5)]) (rest := []) (v := nI (cy.R 0 0)) hx hb hml hown hC hS hAb hW (fun ly L ad hX => RoI.cast (ol5.trans (by rw [G.nl]; exact pt_ni)) (mX3_ofLayer_g l hX (cy.R 10 2) 5 (show (cy.R 10 2) < (ptC cy h i f u kd (nI 0)).R 10 2 by simp only [pt_100, pt_101, pt_10, pt_R1]; first | assumption | omega) (show 5 ≤ 13 by first | assumption | omega))) kV_L_55 ⟨rfl, rfl⟩ ⟨Nat.le_of_ble_eq_true rfl, Nat.le_of_ble_eq_true rfl⟩ rfl hl (Nat.le_of_ble_eq_true rfl) ⟨show 2 ≤ (2 : Nat) by omega, show 211 ≤ (211 : Nat) by omega⟩ dL_isPainted_329 ?_
                                          refine lv_aload_n hx hb dL_isPainted_332 rfl (lv_at hl 1 rfl) ?_
                                          refine lv_iconstN hx hb 0 dL_isPainted_333 (by decide) ?_
                                          refine la_V (As := [.int (nI 0)]) (rest := [.int (nI (cy.R 0 0))]) (v := nI (cy.R 0 0)) hx hb hml hown hC hS hAb hW (fun ly L ad hX => RoI.cast (ma0.trans (by rw [pt_R0])) (mX3_many_g l hX 0 (show 0 ≤ 11 by first | assumption | omega))) kV_L_29 ⟨rfl, rfl⟩ ⟨Nat.le_of_ble_eq_true rfl, Nat.le_of_ble_eq_true rfl⟩ rfl hl (Nat.le_of_ble_eq_true rfl) ⟨show 2 ≤ (2 : Nat) by omega, show 211 ≤ (211 : Nat) by omega⟩ dL_isPainted_334 ?_
                                          refine lv_icmpN_ne (tgt := 344) hx hb dL_isPainted_337 (by decide) (by omega) (by omega) (fun c_337 => ?_) (fun c_337 => ?_)
                                          · skip
                                            exact absurd rfl c_337
                                          · skip
                                            refine lv_iconstN hx hb 1 dL_isPainted_340 (by decide) ?_
                                            refine lv_goto (tgt := 345) hx hb dL_isPainted_341 (by decide) ?_
                                            exact mu_zretB (b1 := true) (b2 := true) hx hb hr hlocks hS (⟨by rw [show pnC cy h i f u kd = ptC cy h i f u kd (nI 0) from if_neg hc]; exact hW, by rw [show pnF cy h i f u kd F = upd F h ((F h) + (nI (1 * (20 + (10 * kd))))) from by unfold pnF; rw [if_neg hc, hmore, pk_mul]]; exact hI_af⟩) (by decide) rfl dL_isPainted_345
                                · skip
                                  exact absurd c_283 (by decide)
                        · skip
                          exact absurd rfl c_239
                    · skip
                      exact absurd c_219 (by decide)
            · skip
              refine lv_aload_n hx hb dL_isPainted_156 rfl (lv_at hl 0 rfl) ?_
              refine lv_iload_n hx hb dL_isPainted_157 rfl (lv_at hl 2 rfl) ?_
              refine lv_iload hx hb dL_isPainted_158 (lv_at hl 14 rfl) ?_
              refine la_V (As := [.int (nI i), .int (nI k)]) (rest := []) (v := nI (cy.R 10 2)) hx hb hml hown hC hS hAb hW (fun ly L ad hX => RoI.cast ((pt_show (by omega) (by omega)).trans (by rw [G.nl])) (mX3_shows_g l hX i k (show i < (ptC cy h i f u kd (nI 0)).R 10 0 by simp only [pt_100, pt_101, pt_10, pt_R1]; first | assumption | omega) (show k < (ptC cy h i f u kd (nI 0)).R 1 i by simp only [pt_100, pt_101, pt_10, pt_R1]; first | assumption | omega))) kV_L_100 ⟨rfl, rfl⟩ ⟨Nat.le_of_ble_eq_true rfl, Nat.le_of_ble_eq_true rfl⟩ rfl hl (Nat.le_of_ble_eq_true rfl) ⟨show 2 ≤ (2 : Nat) by omega, show 211 ≤ (211 : Nat) by omega⟩ dL_isPainted_160 ?_
              refine lv_iload hx hb dL_isPainted_163 (lv_at hl 7 rfl) ?_
              refine lv_icmpN_eq (tgt := 170) hx hb dL_isPainted_165 (by decide) (by omega) (by omega) (fun c_165 => ?_) (fun c_165 => ?_)
              · skip
                refine lv_iincN (v := 1) (lv' := [(15, .int (nI (k + 1))), (0, .ref x), (1, .int (nI h)), (2, .int (nI i)), (3, .int (nI f)), (4, .int (nI u)), (5, .int (nI kd)), (6, .ref af), (8, .int (nI (cy.R 10 2))), (9, .int (nI (360 - cy.R 3 h))), (10, .int (nI (cwrS cy h i f u kd))), (11, .int (smI (cy.Wr h) 8)), (12, .int (nI 0)), (13, .int (cy.I 13 h)), (14, .int (nI 0))]) hx hb dL_isPainted_170 hl (k := 14) rfl (by decide) (by decide) rfl (fun ls hl => ?_)
                refine lv_goto (tgt := 147) hx hb dL_isPainted_173 (by decide) ?_
                exact ih147 (k + 1) (by omega) (by omega) (by omega) _ (lv_sub hl [1, 2, 3, 4, 5, 6, 7, 8, 9, 10, 11, 12, 13, 14, 0] rfl)
              · skip
                exact absurd rfl c_165
        exact lp147 (f + u - f + 1) f (Nat.le_refl _) (by omega) (Nat.lt_succ_self _) _ (lv_sub hl [8, 9, 10, 11, 12, 13, 14, 7, 6, 5, 4, 3, 2, 1, 0] rfl)
      · skip
        exact absurd rfl c_90
  · skip
    have hp : permS cy h i = true := decide_eq_true c_66
    refine lv_iconstN hx hb 1 dL_isPainted_69 (by decide) ?_
    refine lv_goto (tgt := 74) hx hb dL_isPainted_70 (by decide) ?_
    refine lv_istore (lv' := [(14, .int (nI 1)), (13, .int (cy.I 13 h)), (12, .int (nI 0)), (11, .int (smI (cy.Wr h) 8)), (10, .int (nI (cwrS cy h i f u kd))), (9, .int (nI (360 - cy.R 3 h))), (8, .int (nI (cy.R 10 2))), (0, .ref x), (1, .int (nI h)), (2, .int (nI i)), (3, .int (nI f)), (4, .int (nI u)), (5, .int (nI kd)), (6, .ref af), (7, .int (nI hs))]) hx hb dL_isPainted_74 hl (by decide) rfl (fun ls hl => ?_)
    refine lv_aload_n hx hb dL_isPainted_76 rfl (lv_at hl 7 rfl) ?_
    refine lv_iload_n hx hb dL_isPainted_77 rfl (lv_at hl 8 rfl) ?_
    refine lv_iload_n hx hb dL_isPainted_78 rfl (lv_at hl 9 rfl) ?_
    refine lv_iload_n hx hb dL_isPainted_79 rfl (lv_at hl 10 rfl) ?_
    refine lv_iload hx hb dL_isPainted_80 (lv_at hl 11 rfl) ?_
    refine lv_iload hx hb dL_isPainted_82 (lv_at hl 12 rfl) ?_
    refine lv_iconstN hx hb 0 dL_isPainted_84 (by decide) ?_
    by_cases hc : 360 - cy.R 3 h < u * mcS cy h kd ∨ 60 ≤ cy.R 10 2
    · skip
      refine lt_V (xs := fun _ => xIS) (As := [.int (nI h), .int (nI i), .int (nI f), .int (nI u), .int (nI kd), .int (nI 0)]) (rest := []) hx hb hml hown hC hS hAb hW (fun ly L ad hX => mX3_paint_b4 l hst hX h i f u kd (nI 0) (show h < cy.R 10 1 by first | assumption | omega) (show i < cy.R 10 0 by first | assumption | omega) (has_t wf hi1 hf hu) (by omega) (show kd < 4 by first | assumption | omega) (by decide) hc) kV_L_111 ⟨Nat.le_of_ble_eq_true rfl, Nat.le_of_ble_eq_true rfl⟩ rfl hl (Nat.le_of_ble_eq_true rfl) ⟨show 0 + 1 ≤ (2 : Nat) by omega, show 0 + 6 ≤ (211 : Nat) by omega⟩ dL_isPainted_85 (fun q9 ce H hW hS hz hk hce hcv hcl => ?_)
      have hI_af := hI_af.kept (hk af hI_af.lt)
      refine vx_catch hown (tableOf []) ⟨76, 94, 98, 106⟩ (tableOf []) (htab.trans rfl) (fun z hz => absurd hz List.not_mem_nil) rfl (by decide) (hC.2.1.hts _ _ wCl_L_106) (cs_xIS hC) hce hcv hcl ?_
      refine lv_astore (lv' := [(15, .ref q9), (14, .int (nI 1)), (13, .int (cy.I 13 h)), (12, .int (nI 0)), (11, .int (smI (cy.Wr h) 8)), (10, .int (nI (cwrS cy h i f u kd))), (9, .int (nI (360 - cy.R 3 h))), (8, .int (nI (cy.R 10 2))), (0, .ref x), (1, .int (nI h)), (2, .int (nI i)), (3, .int (nI f)), (4, .int (nI u)), (5, .int (nI kd)), (6, .ref af), (7, .int (nI hs))]) hx hb dL_isPainted_98 hl (by decide) rfl (fun ls hl => ?_)
      refine lv_aload_n hx hb dL_isPainted_100 rfl (lv_at hl 8 rfl) ?_
      refine lv_iconstN hx hb 3 dL_isPainted_101 (by decide) ?_
      refine la_V (As := [.int (nI 3)]) (rest := []) (v := nI (cy.R 10 2)) hx hb hml hown hC hS hAb hW (fun ly L ad hX => RoI.cast ma3 (mX3_many_g l hX 3 (show 3 ≤ 11 by first | assumption | omega))) kV_L_29 ⟨rfl, rfl⟩ ⟨Nat.le_of_ble_eq_true rfl, Nat.le_of_ble_eq_true rfl⟩ rfl hl (Nat.le_of_ble_eq_true rfl) ⟨show 1 ≤ (2 : Nat) by omega, show 6 ≤ (211 : Nat) by omega⟩ dL_isPainted_102 ?_
      refine lv_iload hx hb dL_isPainted_105 (lv_at hl 7 rfl) ?_
      refine lv_icmpN_ne (tgt := 142) hx hb dL_isPainted_107 (by decide) (by omega) (by omega) (fun c_107 => ?_) (fun c_107 => ?_)
      · skip
        exact absurd rfl c_107
      · skip
        refine lv_aload_n hx hb dL_isPainted_110 rfl (lv_at hl 8 rfl) ?_
        refine lv_iload_n hx hb dL_isPainted_111 rfl (lv_at hl 9 rfl) ?_
        refine lv_iconstN hx hb 1 dL_isPainted_112 (by decide) ?_
        refine la_V (As := [.int (nI h), .int (nI 1)]) (rest := []) (v := nI (360 - cy.R 3 h)) hx hb hml hown hC hS hAb hW (fun ly L ad hX => RoI.cast oh1 (mX3_ofHand_g l hX h 1 (show h < cy.R 10 1 by first | assumption | omega) (show 1 ≤ 10 by first | assumption | omega))) kV_L_68 ⟨rfl, rfl⟩ ⟨Nat.le_of_ble_eq_true rfl, Nat.le_of_ble_eq_true rfl⟩ rfl hl (Nat.le_of_ble_eq_true rfl) ⟨show 1 ≤ (2 : Nat) by omega, show 6 ≤ (211 : Nat) by omega⟩ dL_isPainted_113 ?_
        refine lv_iload hx hb dL_isPainted_116 (lv_at hl 6 rfl) ?_
        refine lv_icmpN_ne (tgt := 142) hx hb dL_isPainted_118 (by decide) (by omega) (by omega) (fun c_118 => ?_) (fun c_118 => ?_)
        · skip
          exact absurd rfl c_118
        · skip
          refine lv_iload hx hb dL_isPainted_121 (lv_at hl 7 rfl) ?_
          refine lv_bipushN hx hb 60 dL_isPainted_123 (by decide) ?_
          refine lv_icmpN_eq (tgt := 138) hx hb dL_isPainted_125 (by decide) (by omega) (by omega) (fun c_125 => ?_) (fun c_125 => ?_)
          · skip
            refine lv_iconstN hx hb 1 dL_isPainted_138 (by decide) ?_
            refine lv_goto (tgt := 143) hx hb dL_isPainted_139 (by decide) ?_
            refine W.widen (k := 2) (n := 211) (by omega) (by omega) ?_
            exact mu_zretB (b1 := true) (b2 := true) hx hb hr hlocks hS (⟨by rw [show pnC cy h i f u kd = cy from if_pos hc]; exact hW, by rw [show pnF cy h i f u kd F = F from if_pos hc]; exact hI_af⟩) (by decide) rfl dL_isPainted_143
          · skip
            refine lv_iload hx hb dL_isPainted_128 (lv_at hl 6 rfl) ?_
            refine lv_bipushN hx hb 90 dL_isPainted_130 (by decide) ?_
            refine lv_iload hx hb dL_isPainted_132 (lv_at hl 12 rfl) ?_
            refine lv_imulN hx hb dL_isPainted_134 ?_
            refine lv_icmpN_ge (tgt := 142) hx hb dL_isPainted_135 (by decide) (by omega) (by omega) (fun c_135 => ?_) (fun c_135 => ?_)
            · skip
              rcases hc with z | z
              · have h9 := Nat.mul_le_mul_left u (mc_le2 (kd := kd) wf hh1).2
                omega
              · omega
            · skip
              refine lv_iconstN hx hb 1 dL_isPainted_138 (by decide) ?_
              refine lv_goto (tgt := 143) hx hb dL_isPainted_139 (by decide) ?_
              refine W.widen (k := 2) (n := 211) (by omega) (by omega) ?_
              exact mu_zretB (b1 := true) (b2 := true) hx hb hr hlocks hS (⟨by rw [show pnC cy h i f u kd = cy from if_pos hc]; exact hW, by rw [show pnF cy h i f u kd F = F from if_pos hc]; exact hI_af⟩) (by decide) rfl dL_isPainted_143
    · skip
      refine lu_M (c2 := ptC cy h i f u kd (nI 0)) (As := [.int (nI h), .int (nI i), .int (nI f), .int (nI u), .int (nI kd), .int (nI 0)]) (rest := []) (v := nI (cwrS cy h i f u kd)) hx hb hml hown hC hS hAb (fun q h => ⟨h.1, fun z => h.2 (List.mem_cons_of_mem _ z)⟩) hW (fun ly L ad hX => mX3_paint_g l hX h i f u kd (nI 0) (show h < cy.R 10 1 by first | assumption | omega) (show i < cy.R 10 0 by first | assumption | omega) (has_t wf hi1 hf hu) ⟨hu, by omega⟩ (show f + u ≤ cy.R 1 i by first | assumption | omega) (show kd < 4 by first | assumption | omega) (by decide) (Nat.not_lt.mp (fun z => hc (Or.inl z))) (Nat.not_le.mp (fun z => hc (Or.inr z))) G.nl) kV_L_111 ⟨rfl, rfl⟩ ⟨Nat.le_of_ble_eq_true rfl, Nat.le_of_ble_eq_true rfl⟩ rfl hl (Nat.le_of_ble_eq_true rfl) ⟨show 0 + 2 ≤ (2 : Nat) by omega, show 0 + 211 ≤ (211 : Nat) by omega⟩ dL_isPainted_85 (fun H locs hW hS hz hk => ?_)
      have hI_af := hI_af.kept (hk af (by simp))
      refine lv_iload hx hb dL_isPainted_88 (lv_at hl 4 rfl) ?_
      refine lv_icmpN_eq (tgt := 95) hx hb dL_isPainted_90 (by decide) (by omega) (by omega) (fun c_90 => ?_) (fun c_90 => ?_)
      · skip
        refine lv_goto (tgt := 144) hx hb dL_isPainted_95 (by decide) ?_
        refine lv_iload_n hx hb dL_isPainted_144 rfl (lv_at hl 10 rfl) ?_
        refine lv_istore (lv' := [(15, .int (nI f)), (14, .int (nI 1)), (13, .int (cy.I 13 h)), (12, .int (nI 0)), (11, .int (smI (cy.Wr h) 8)), (10, .int (nI (cwrS cy h i f u kd))), (9, .int (nI (360 - cy.R 3 h))), (8, .int (nI (cy.R 10 2))), (0, .ref x), (1, .int (nI h)), (2, .int (nI i)), (3, .int (nI f)), (4, .int (nI u)), (5, .int (nI kd)), (6, .ref af), (7, .int (nI hs))]) hx hb dL_isPainted_145 hl (by decide) rfl (fun ls hl => ?_)
        have lp147 : ∀ fu : Nat, ∀ (k : Nat), (f ≤ k) → (k ≤ f + u) → f + u - k < fu → ∀ ls : Array Slot, lv_has ls 16 [(0, .ref x), (1, .int (nI h)), (2, .int (nI i)), (3, .int (nI f)), (4, .int (nI u)), (5, .int (nI kd)), (6, .ref af), (8, .int (nI (cy.R 10 2))), (9, .int (nI (360 - cy.R 3 h))), (10, .int (nI (cwrS cy h i f u kd))), (11, .int (smI (cy.Wr h) 8)), (12, .int (nI 0)), (13, .int (cy.I 13 h)), (14, .int (nI 1)), (15, .int (nI k))] → W p l e (rmk 8 2 211 232) s m ([.ref x, .int (nI h), .int (nI i), .int (nI f), .int (nI u), .int (nI kd), .ref af, .int (nI hs)] : List Value).toArray below meth co H locs 2 211 (MQ below (QiM (bI true) (fun H1 => CW E x (pnC cy h i f u kd) (af :: Ks) H1 ∧ iA E af hs (pnF cy h i f u kd F) H1) (fL E Ks)) ([.ref x, .int (nI h), .int (nI i), .int (nI f), .int (nI u), .int (nI kd), .ref af, .int (nI hs)] : List Value).toArray s 2 211 (fL E Ks)) (F0 m 147 ls []) := by
          intro fu
          induction fu with
          | zero => intro k hk1 hk2 hfu; exact absurd hfu (Nat.not_lt_zero _)
          | succ fu ih147 =>
            intro k hk1 hk2 hfu ls hl
            refine lv_iload hx hb dL_isPainted_147 (lv_at hl 14 rfl) ?_
            refine lv_iload_n hx hb dL_isPainted_149 rfl (lv_at hl 3 rfl) ?_
            refine lv_iload hx hb dL_isPainted_150 (lv_at hl 4 rfl) ?_
            refine lv_iaddN hx hb dL_isPainted_152 ?_
            refine lv_icmpN_ge (tgt := 176) hx hb dL_isPainted_153 (by decide) (by omega) (by omega) (fun c_153 => ?_) (fun c_153 => ?_)
            · skip
              refine lv_aload_n hx hb dL_isPainted_176 rfl (lv_at hl 0 rfl) ?_
              refine lv_iload_n hx hb dL_isPainted_177 rfl (lv_at hl 1 rfl) ?_
              refine lv_bipushN hx hb 10 dL_isPainted_178 (by decide) ?_
              refine la_V (As := [.int (nI h), .int (nI 10)]) (rest := []) (v := (ptC cy h i f u kd (nI 0)).I 13 h) hx hb hml hown hC hS hAb hW (fun ly L ad hX => RoI.cast oh10 (mX3_ofHand_g l hX h 10 (show h < (ptC cy h i f u kd (nI 0)).R 10 1 by simp only [pt_100, pt_101, pt_10, pt_R1]; first | assumption | omega) (show 10 ≤ 10 by first | assumption | omega))) kV_L_68 ⟨rfl, rfl⟩ ⟨Nat.le_of_ble_eq_true rfl, Nat.le_of_ble_eq_true rfl⟩ rfl hl (Nat.le_of_ble_eq_true rfl) ⟨show 2 ≤ (2 : Nat) by omega, show 211 ≤ (211 : Nat) by omega⟩ dL_isPainted_180 ?_
              refine lv_iload hx hb dL_isPainted_183 (lv_at hl 12 rfl) ?_
              refine lv_isub hx hb dL_isPainted_185 ?_
              refine lv_istore (lv' := [(15, .int (((ptC cy h i f u kd (nI 0)).I 13 h) - (cy.I 13 h))), (0, .ref x), (1, .int (nI h)), (2, .int (nI i)), (3, .int (nI f)), (4, .int (nI u)), (5, .int (nI kd)), (6, .ref af), (8, .int (nI (cy.R 10 2))), (9, .int (nI (360 - cy.R 3 h))), (10, .int (nI (cwrS cy h i f u kd))), (11, .int (smI (cy.Wr h) 8)), (12, .int (nI 0)), (13, .int (cy.I 13 h)), (14, .int (nI 1))]) hx hb dL_isPainted_186 hl (by decide) rfl (fun ls hl => ?_)
              have hk9 : ptK cy h i u kd = false := by unfold ptK; rw [hp]; rfl
              have hmore : (ptC cy h i f u kd (nI 0)).I 13 h - cy.I 13 h = nI 0 := by rw [pt_more, hk9]; rfl
              rw [hmore] at hl
              refine lv_aload hx hb dL_isPainted_188 (lv_at hl 7 rfl) ?_
              refine lv_iload_n hx hb dL_isPainted_190 rfl (lv_at hl 2 rfl) ?_
              refine lv_dup2_11 hx hb dL_isPainted_191 rfl rfl ?_
              refine li_ld hx hb hC hI_af (j := h) (by first | assumption | omega) (by omega) dL_isPainted_192 ?_
              refine lv_iload hx hb dL_isPainted_193 (lv_at hl 0 rfl) ?_
              refine lv_bipushN hx hb 20 dL_isPainted_195 (by decide) ?_
              refine lv_bipushN hx hb 10 dL_isPainted_197 (by decide) ?_
              refine lv_iload hx hb dL_isPainted_199 (lv_at hl 6 rfl) ?_
              refine lv_imulN hx hb dL_isPainted_201 ?_
              refine lv_iaddN hx hb dL_isPainted_202 ?_
              refine lv_imulN hx hb dL_isPainted_203 ?_
              refine lv_iadd hx hb dL_isPainted_204 ?_
              refine li_st (v := (F h) + (nI (0 * (20 + (10 * kd))))) hx hb hC hI_af hW hS hA_af (by simp) (j := h) (by first | assumption | omega) (by omega) dL_isPainted_205 (fun H locs hI_af hW hS hz hk => ?_)
              refine lv_iload hx hb dL_isPainted_206 (lv_at hl 0 rfl) ?_
              refine lv_if_lt (tgt := 242) hx hb dL_isPainted_208 (by decide) (fun c_208 => ?_) (fun c_208 => ?_)
              · skip
                exact absurd c_208 (by decide)
              · skip
                refine lv_iload hx hb dL_isPainted_211 (lv_at hl 0 rfl) ?_
                refine lv_iconstN hx hb 1 dL_isPainted_213 (by decide) ?_
                refine lv_icmpN_gt (tgt := 242) hx hb dL_isPainted_214 (by decide) (by omega) (by omega) (fun c_214 => ?_) (fun c_214 => ?_)
                · skip
                  omega
                · skip
                  refine lv_iload hx hb dL_isPainted_217 (lv_at hl 14 rfl) ?_
                  refine lv_ifN_eq (tgt := 227) hx hb dL_isPainted_219 (by decide) (by omega) (fun c_219 => ?_) (fun c_219 => ?_)
                  · skip
                    exact absurd c_219 (by decide)
                  · skip
                    refine lv_iload hx hb dL_isPainted_222 (lv_at hl 0 rfl) ?_
                    refine lv_ifN_gt (tgt := 242) hx hb dL_isPainted_224 (by decide) (by omega) (fun c_224 => ?_) (fun c_224 => ?_)
                    · skip
                      omega
                    · skip
                      refine lv_iload hx hb dL_isPainted_227 (lv_at hl 0 rfl) ?_
                      refine lv_ifN_le (tgt := 244) hx hb dL_isPainted_229 (by decide) (by omega) (fun c_229 => ?_) (fun c_229 => ?_)
                      · skip
                        refine lv_aload_n hx hb dL_isPainted_244 rfl (lv_at hl 1 rfl) ?_
                        refine lv_iload_n hx hb dL_isPainted_245 rfl (lv_at hl 2 rfl) ?_
                        refine lv_bipushN hx hb 7 dL_isPainted_246 (by decide) ?_
                        refine la_V (As := [.int (nI h), .int (nI 7)]) (rest := []) (v := smI (cy.Wr h) 8 + nI (cwrS cy h i f u kd)) hx hb hml hown hC hS hAb hW (fun ly L ad hX => RoI.cast (oh7.trans (pt_wr wf hi1 hf)) (mX3_ofHand_g l hX h 7 (show h < (ptC cy h i f u kd (nI 0)).R 10 1 by simp only [pt_100, pt_101, pt_10, pt_R1]; first | assumption | omega) (show 7 ≤ 10 by first | assumption | omega))) kV_L_68 ⟨rfl, rfl⟩ ⟨Nat.le_of_ble_eq_true rfl, Nat.le_of_ble_eq_true rfl⟩ rfl hl (Nat.le_of_ble_eq_true rfl) ⟨show 2 ≤ (2 : Nat) by omega, show 211 ≤ (211 : Nat) by omega⟩ dL_isPainted_248 ?_
                        refine lv_iload hx hb dL_isPainted_251 (lv_at hl 11 rfl) ?_
                        refine lv_iload hx hb dL_isPainted_253 (lv_at hl 10 rfl) ?_
                        refine lv_iadd hx hb dL_isPainted_255 ?_
                        refine lv_icmp_ne (tgt := 344) hx hb dL_isPainted_256 (by decide) (fun c_256 => ?_) (fun c_256 => ?_)
                        · skip
                          exact absurd rfl c_256
                        · skip
                          refine lv_iload hx hb dL_isPainted_259 (lv_at hl 12 rfl) ?_
                          refine lv_ifN_ne (tgt := 344) hx hb dL_isPainted_261 (by decide) (by omega) (fun c_261 => ?_) (fun c_261 => ?_)
                          · skip
                            exact absurd c_261 (by decide)
                          · skip
                            refine lv_aload_n hx hb dL_isPainted_264 rfl (lv_at hl 1 rfl) ?_
                            refine lv_iload_n hx hb dL_isPainted_265 rfl (lv_at hl 2 rfl) ?_
                            refine lv_iload_n hx hb dL_isPainted_266 rfl (lv_at hl 2 rfl) ?_
                            refine la_V (As := [.int (nI h), .int (nI h)]) (rest := []) (v := nI 0) hx hb hml hown hC hS hAb hW (fun ly L ad hX => RoI.cast (pt_w0.trans (G.ow hh)) (mX3_wrongs_g l hX h h (show h < (ptC cy h i f u kd (nI 0)).R 10 1 by simp only [pt_100, pt_101, pt_10, pt_R1]; first | assumption | omega) (show h < (ptC cy h i f u kd (nI 0)).R 10 1 by simp only [pt_100, pt_101, pt_10, pt_R1]; first | assumption | omega))) kV_L_108 ⟨rfl, rfl⟩ ⟨Nat.le_of_ble_eq_true rfl, Nat.le_of_ble_eq_true rfl⟩ rfl hl (Nat.le_of_ble_eq_true rfl) ⟨show 2 ≤ (2 : Nat) by omega, show 211 ≤ (211 : Nat) by omega⟩ dL_isPainted_267 ?_
                            refine lv_ifN_ne (tgt := 344) hx hb dL_isPainted_270 (by decide) (by omega) (fun c_270 => ?_) (fun c_270 => ?_)
                            · skip
                              exact absurd c_270 (by decide)
                            · skip
                              refine lv_aload_n hx hb dL_isPainted_273 rfl (lv_at hl 1 rfl) ?_
                              refine lv_iload hx hb dL_isPainted_274 (lv_at hl 8 rfl) ?_
                              refine lv_bipushN hx hb 6 dL_isPainted_276 (by decide) ?_
                              refine la_V (As := [.int (nI (cy.R 10 2)), .int (nI 6)]) (rest := []) (v := nI 1) hx hb hml hown hC hS hAb hW (fun ly L ad hX => RoI.cast (ol6.trans (by rw [G.nl, pt_le, hp]; rfl)) (mX3_ofLayer_g l hX (cy.R 10 2) 6 (show (cy.R 10 2) < (ptC cy h i f u kd (nI 0)).R 10 2 by simp only [pt_100, pt_101, pt_10, pt_R1]; first | assumption | omega) (show 6 ≤ 13 by first | assumption | omega))) kV_L_55 ⟨rfl, rfl⟩ ⟨Nat.le_of_ble_eq_true rfl, Nat.le_of_ble_eq_true rfl⟩ rfl hl (Nat.le_of_ble_eq_true rfl) ⟨show 2 ≤ (2 : Nat) by omega, show 211 ≤ (211 : Nat) by omega⟩ dL_isPainted_278 ?_
                              refine lv_iload hx hb dL_isPainted_281 (lv_at hl 14 rfl) ?_
                              refine lv_ifN_eq (tgt := 290) hx hb dL_isPainted_283 (by decide) (by omega) (fun c_283 => ?_) (fun c_283 => ?_)
                              · skip
                                exact absurd c_283 (by decide)
                              · skip
                                refine lv_iconstN hx hb 1 dL_isPainted_286 (by decide) ?_
                                refine lv_goto (tgt := 291) hx hb dL_isPainted_287 (by decide) ?_
                                refine lv_icmpN_ne (tgt := 344) hx hb dL_isPainted_291 (by decide) (by omega) (by omega) (fun c_291 => ?_) (fun c_291 => ?_)
                                · skip
                                  exact absurd rfl c_291
                                · skip
                                  refine lv_aload_n hx hb dL_isPainted_294 rfl (lv_at hl 1 rfl) ?_
                                  refine lv_iload hx hb dL_isPainted_295 (lv_at hl 8 rfl) ?_
                                  refine lv_bipushN hx hb 9 dL_isPainted_297 (by decide) ?_
                                  refine la_V (As := [.int (nI (cy.R 10 2)), .int (nI 9)]) (rest := []) (v := nI u) hx hb hml hown hC hS hAb hW (fun ly L ad hX => RoI.cast (ol9.trans (by rw [G.nl, pt_seen wf hi1 hf])) (mX3_ofLayer_g l hX (cy.R 10 2) 9 (show (cy.R 10 2) < (ptC cy h i f u kd (nI 0)).R 10 2 by simp only [pt_100, pt_101, pt_10, pt_R1]; first | assumption | omega) (show 9 ≤ 13 by first | assumption | omega))) kV_L_55 ⟨rfl, rfl⟩ ⟨Nat.le_of_ble_eq_true rfl, Nat.le_of_ble_eq_true rfl⟩ rfl hl (Nat.le_of_ble_eq_true rfl) ⟨show 2 ≤ (2 : Nat) by omega, show 211 ≤ (211 : Nat) by omega⟩ dL_isPainted_299 ?_
                                  refine lv_iload hx hb dL_isPainted_302 (lv_at hl 5 rfl) ?_
                                  refine lv_icmpN_ne (tgt := 344) hx hb dL_isPainted_304 (by decide) (by omega) (by omega) (fun c_304 => ?_) (fun c_304 => ?_)
                                  · skip
                                    exact absurd rfl c_304
                                  · skip
                                    refine lv_aload_n hx hb dL_isPainted_307 rfl (lv_at hl 1 rfl) ?_
                                    refine lv_iload_n hx hb dL_isPainted_308 rfl (lv_at hl 2 rfl) ?_
                                    refine lv_iconstN hx hb 1 dL_isPainted_309 (by decide) ?_
                                    refine la_V (As := [.int (nI h), .int (nI 1)]) (rest := []) (v := nI (360 - (cy.R 3 h + u * mcS cy h kd))) hx hb hml hown hC hS hAb hW (fun ly L ad hX => RoI.cast (oh1.trans (by rw [pt_3])) (mX3_ofHand_g l hX h 1 (show h < (ptC cy h i f u kd (nI 0)).R 10 1 by simp only [pt_100, pt_101, pt_10, pt_R1]; first | assumption | omega) (show 1 ≤ 10 by first | assumption | omega))) kV_L_68 ⟨rfl, rfl⟩ ⟨Nat.le_of_ble_eq_true rfl, Nat.le_of_ble_eq_true rfl⟩ rfl hl (Nat.le_of_ble_eq_true rfl) ⟨show 2 ≤ (2 : Nat) by omega, show 211 ≤ (211 : Nat) by omega⟩ dL_isPainted_310 ?_
                                    refine lv_iload hx hb dL_isPainted_313 (lv_at hl 9 rfl) ?_
                                    refine lv_icmpN_ge (tgt := 344) hx hb dL_isPainted_315 (by decide) (by omega) (by omega) (fun c_315 => ?_) (fun c_315 => ?_)
                                    · skip
                                      have h9 := Nat.mul_le_mul hu (mc_le2 (kd := kd) wf hh1).1; have h8 := Nat.not_lt.mp (fun z => hc (Or.inl z)); omega
                                    · skip
                                      refine lv_iload hx hb dL_isPainted_318 (lv_at hl 10 rfl) ?_
                                      refine lv_iload hx hb dL_isPainted_320 (lv_at hl 5 rfl) ?_
                                      refine lv_icmpN_gt (tgt := 344) hx hb dL_isPainted_322 (by decide) (by omega) (by omega) (fun c_322 => ?_) (fun c_322 => ?_)
                                      · skip
                                        omega
                                      · skip
                                        refine lv_aload_n hx hb dL_isPainted_325 rfl (lv_at hl 1 rfl) ?_
                                        refine lv_iload hx hb dL_isPainted_326 (lv_at hl 8 rfl) ?_
                                        refine lv_iconstN hx hb 5 dL_isPainted_328 (by decide) ?_
                                        refine la_V (As := [.int (nI (cy.R 10 2)), .int (nI 5)]) (rest := []) (v := nI (cy.R 0 0)) hx hb hml hown hC hS hAb hW (fun ly L ad hX => RoI.cast (ol5.trans (by rw [G.nl]; exact pt_ni)) (mX3_ofLayer_g l hX (cy.R 10 2) 5 (show (cy.R 10 2) < (ptC cy h i f u kd (nI 0)).R 10 2 by simp only [pt_100, pt_101, pt_10, pt_R1]; first | assumption | omega) (show 5 ≤ 13 by first | assumption | omega))) kV_L_55 ⟨rfl, rfl⟩ ⟨Nat.le_of_ble_eq_true rfl, Nat.le_of_ble_eq_true rfl⟩ rfl hl (Nat.le_of_ble_eq_true rfl) ⟨show 2 ≤ (2 : Nat) by omega, show 211 ≤ (211 : Nat) by omega⟩ dL_isPainted_329 ?_
                                        refine lv_aload_n hx hb dL_isPainted_332 rfl (lv_at hl 1 rfl) ?_
                                        refine lv_iconstN hx hb 0 dL_isPainted_333 (by decide) ?_
                                        refine la_V (As := [.int (nI 0)]) (rest := [.int (nI (cy.R 0 0))]) (v := nI (cy.R 0 0)) hx hb hml hown hC hS hAb hW (fun ly L ad hX => RoI.cast (ma0.trans (by rw [pt_R0])) (mX3_many_g l hX 0 (show 0 ≤ 11 by first | assumption | omega))) kV_L_29 ⟨rfl, rfl⟩ ⟨Nat.le_of_ble_eq_true rfl, Nat.le_of_ble_eq_true rfl⟩ rfl hl (Nat.le_of_ble_eq_true rfl) ⟨show 2 ≤ (2 : Nat) by omega, show 211 ≤ (211 : Nat) by omega⟩ dL_isPainted_334 ?_
                                        refine lv_icmpN_ne (tgt := 344) hx hb dL_isPainted_337 (by decide) (by omega) (by omega) (fun c_337 => ?_) (fun c_337 => ?_)
                                        · skip
                                          exact absurd rfl c_337
                                        · skip
                                          refine lv_iconstN hx hb 1 dL_isPainted_340 (by decide) ?_
                                          refine lv_goto (tgt := 345) hx hb dL_isPainted_341 (by decide) ?_
                                          exact mu_zretB (b1 := true) (b2 := true) hx hb hr hlocks hS (⟨by rw [show pnC cy h i f u kd = ptC cy h i f u kd (nI 0) from if_neg hc]; exact hW, by rw [show pnF cy h i f u kd F = upd F h ((F h) + (nI (0 * (20 + (10 * kd))))) from by unfold pnF; rw [if_neg hc, hmore, pk_mul]]; exact hI_af⟩) (by decide) rfl dL_isPainted_345
                      · skip
                        omega
            · skip
              refine lv_aload_n hx hb dL_isPainted_156 rfl (lv_at hl 0 rfl) ?_
              refine lv_iload_n hx hb dL_isPainted_157 rfl (lv_at hl 2 rfl) ?_
              refine lv_iload hx hb dL_isPainted_158 (lv_at hl 14 rfl) ?_
              refine la_V (As := [.int (nI i), .int (nI k)]) (rest := []) (v := nI (cy.R 10 2)) hx hb hml hown hC hS hAb hW (fun ly L ad hX => RoI.cast ((pt_show (by omega) (by omega)).trans (by rw [G.nl])) (mX3_shows_g l hX i k (show i < (ptC cy h i f u kd (nI 0)).R 10 0 by simp only [pt_100, pt_101, pt_10, pt_R1]; first | assumption | omega) (show k < (ptC cy h i f u kd (nI 0)).R 1 i by simp only [pt_100, pt_101, pt_10, pt_R1]; first | assumption | omega))) kV_L_100 ⟨rfl, rfl⟩ ⟨Nat.le_of_ble_eq_true rfl, Nat.le_of_ble_eq_true rfl⟩ rfl hl (Nat.le_of_ble_eq_true rfl) ⟨show 2 ≤ (2 : Nat) by omega, show 211 ≤ (211 : Nat) by omega⟩ dL_isPainted_160 ?_
              refine lv_iload hx hb dL_isPainted_163 (lv_at hl 7 rfl) ?_
              refine lv_icmpN_eq (tgt := 170) hx hb dL_isPainted_165 (by decide) (by omega) (by omega) (fun c_165 => ?_) (fun c_165 => ?_)
              · skip
                refine lv_iincN (v := 1) (lv' := [(15, .int (nI (k + 1))), (0, .ref x), (1, .int (nI h)), (2, .int (nI i)), (3, .int (nI f)), (4, .int (nI u)), (5, .int (nI kd)), (6, .ref af), (8, .int (nI (cy.R 10 2))), (9, .int (nI (360 - cy.R 3 h))), (10, .int (nI (cwrS cy h i f u kd))), (11, .int (smI (cy.Wr h) 8)), (12, .int (nI 0)), (13, .int (cy.I 13 h)), (14, .int (nI 1))]) hx hb dL_isPainted_170 hl (k := 14) rfl (by decide) (by decide) rfl (fun ls hl => ?_)
                refine lv_goto (tgt := 147) hx hb dL_isPainted_173 (by decide) ?_
                exact ih147 (k + 1) (by omega) (by omega) (by omega) _ (lv_sub hl [1, 2, 3, 4, 5, 6, 7, 8, 9, 10, 11, 12, 13, 14, 0] rfl)
              · skip
                exact absurd rfl c_165
        exact lp147 (f + u - f + 1) f (Nat.le_refl _) (by omega) (Nat.lt_succ_self _) _ (lv_sub hl [8, 9, 10, 11, 12, 13, 14, 7, 6, 5, 4, 3, 2, 1, 0] rfl)
      · skip
        exact absurd rfl c_90
