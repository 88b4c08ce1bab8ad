/-! isBuffed -/
theorem wMin_L : .methodLink RL 33 Lib.Math.min.name ∈ WG := wg_t 766 (by decide +kernel) (by decide +kernel)
theorem cs_xIS {E : En} {s : State} {args : Array Value} (h : Cs E s) : (Cond.castable xIS xIS).before args s = true := va_Nw.use rfl (wn_t 154 (w := .castable xIS xIS) (by decide +kernel) (by decide +kernel) h.2.1)
theorem bu_R {c : Cy} {i : Nat} : (buC c i).R = c.R := rfl
theorem bu_B {c : Cy} {i : Nat} : (buC c i).B = c.B := rfl
theorem bu_I {c : Cy} {i a z : Nat} (h : a ≠ 0) : (buC c i).I a z = c.I a z := up2_a _ _ h
theorem bu_I0 {c : Cy} {i : Nat} : (buC c i).I 0 0 = c.I 0 0 - nI (ctbS c i) := up2_same c.I 0 0 (c.I 0 0 - nI (ctbS c i))
theorem up_ext {f g : Nat → Int32} {k : Nat} (h : ∀ z, z < k → f z = g z) : ∀ z, z < k + 1 → upd f k (g k) z = g z := fun z hz => by
  unfold upd
  by_cases q : z = k
  · rw [if_pos q, q]
  · rw [if_neg q]; exact h z (by omega)
set_option maxHeartbeats 8000000 in
set_option maxRecDepth 100000 in
theorem mL_isBuffed (l : Launch) (hst : l.stackTraces = false) {E : En} {x : Nat} {cy : Cy} {Ks : List Nat} {H0 : Heap} (hW : CW E x cy Ks H0) {g : Nat → Int32} {hs t : Nat} {F : Nat → Int32} (G : GI cy g hs F t) (i : Nat) (hi : i < 3) : LwB l yL_isBuffed cL_isBuffed 9 [(54, 96, 100, 106)] (rmk 7 2 22 135) [.ref x, .int (nI i), .int (nI (cy.R 1 i))] E H0 (bI true) (fun H1 => CW E x (bfC cy i) Ks H1) (fL E Ks) 2 22 := by
  have wf := hW.wf
  have hw3 := G.nw
  have hw1 := G.nw1
  have hwd := wf.wd (show i < cy.R 11 0 by omega)
  refine lw_of (by decide) (Nat.le_of_ble_eq_true rfl) ?_
  intro p e s m below meth co ls hx hb hr hml hown hlocks htab hC hU hl
  have hS : va_S (fL E Ks) s.heap H0 [] := by rw [hU]; exact va_S.rf
  have hAb : ∀ q, fL E Ks q → bA E q := fun q h => h.1
  have hl : lv_has ls 9 [(0, .ref x), (1, .int (nI i)), (2, .int (nI (cy.R 1 i)))] := hl
  have hfA := hW
  refine lv_aload_n hx hb dL_isBuffed_0 rfl (lv_at hl 0 rfl) ?_
  refine lv_iconstN hx hb 5 dL_isBuffed_1 (by decide) ?_
  refine la_V (As := [.int (nI 5)]) (rest := []) (v := cy.I 0 0) hx hb hml hown hC hS hAb hW (fun ly L ad hX => RoI.cast ma5 (mX3_many_g l hX 5 (show 5 ≤ 11 by first | assumption | omega))) kV_L_29 ⟨rfl, rfl⟩ ⟨Nat.le_of_ble_eq_true rfl, Nat.le_of_ble_eq_true rfl⟩ rfl hl (Nat.le_of_ble_eq_true rfl) ⟨show 0 ≤ (2 : Nat) by omega, show 0 ≤ (22 : Nat) by omega⟩ dL_isBuffed_2 ?_
  refine lv_istore_n (lv' := [(3, .int (cy.I 0 0)), (0, .ref x), (1, .int (nI i)), (2, .int (nI (cy.R 1 i)))]) hx hb dL_isBuffed_5 rfl hl (by decide) rfl (fun ls hl => ?_)
  refine lv_aload_n hx hb dL_isBuffed_6 rfl (lv_at hl 1 rfl) ?_
  refine lv_iload_n hx hb dL_isBuffed_7 rfl (lv_at hl 2 rfl) ?_
  refine lv_iconstN hx hb 5 dL_isBuffed_8 (by decide) ?_
  refine la_V (As := [.int (nI i), .int (nI 5)]) (rest := []) (v := eyS cy i) hx hb hml hown hC hS hAb hW (fun ly L ad hX => RoI.cast ow5 (mX3_ofWall_g l hX i 5 (show i < cy.R 10 0 by first | assumption | omega) (show 5 ≤ 6 by first | assumption | omega))) kV_L_42 ⟨rfl, rfl⟩ ⟨Nat.le_of_ble_eq_true rfl, Nat.le_of_ble_eq_true rfl⟩ rfl hl (Nat.le_of_ble_eq_true rfl) ⟨show 0 ≤ (2 : Nat) by omega, show 0 ≤ (22 : Nat) by omega⟩ dL_isBuffed_9 ?_
  refine lv_istore (lv' := [(4, .int (eyS cy i)), (3, .int (cy.I 0 0)), (0, .ref x), (1, .int (nI i)), (2, .int (nI (cy.R 1 i)))]) hx hb dL_isBuffed_12 hl (by decide) rfl (fun ls hl => ?_)
  refine lv_aload_n hx hb dL_isBuffed_14 rfl (lv_at hl 2 rfl) ?_
  refine lv_iload_n hx hb dL_isBuffed_15 rfl (lv_at hl 3 rfl) ?_
  refine lv_iconstN hx hb 3 dL_isBuffed_16 (by decide) ?_
  refine la_V (As := [.int (nI i), .int (nI 3)]) (rest := []) (v := pcS cy i (nI (cy.R 0 0))) hx hb hml hown hC hS hAb hW (fun ly L ad hX => RoI.cast ow3 (mX3_ofWall_g l hX i 3 (show i < cy.R 10 0 by first | assumption | omega) (show 3 ≤ 6 by first | assumption | omega))) kV_L_42 ⟨rfl, rfl⟩ ⟨Nat.le_of_ble_eq_true rfl, Nat.le_of_ble_eq_true rfl⟩ rfl hl (Nat.le_of_ble_eq_true rfl) ⟨show 0 ≤ (2 : Nat) by omega, show 0 ≤ (22 : Nat) by omega⟩ dL_isBuffed_17 ?_
  refine lv_istore (lv' := [(5, .int (pcS cy i (nI (cy.R 0 0)))), (4, .int (eyS cy i)), (3, .int (cy.I 0 0)), (0, .ref x), (1, .int (nI i)), (2, .int (nI (cy.R 1 i)))]) hx hb dL_isBuffed_20 hl (by decide) rfl (fun ls hl => ?_)
  refine lv_iload_n hx hb dL_isBuffed_22 rfl (lv_at hl 5 rfl) ?_
  refine li_new (n := cy.R 1 i) hx hb hC hW hS (by omega) ⟨show 0 + 1 ≤ (2 : Nat) by omega, show 0 + (cy.R 1 i) ≤ (22 : Nat) by omega⟩ dL_isBuffed_23 (fun were H hfq hA_were hI_were hW hS hk => ?_)
  refine lv_astore (lv' := [(6, .ref were), (5, .int (pcS cy i (nI (cy.R 0 0)))), (4, .int (eyS cy i)), (3, .int (cy.I 0 0)), (0, .ref x), (1, .int (nI i)), (2, .int (nI (cy.R 1 i)))]) hx hb dL_isBuffed_25 hl (by decide) rfl (fun ls hl => ?_)
  refine lv_iconstN hx hb 0 dL_isBuffed_27 (by decide) ?_
  refine lv_istore (lv' := [(7, .int (nI 0)), (6, .ref were), (5, .int (pcS cy i (nI (cy.R 0 0)))), (4, .int (eyS cy i)), (3, .int (cy.I 0 0)), (0, .ref x), (1, .int (nI i)), (2, .int (nI (cy.R 1 i)))]) hx hb dL_isBuffed_28 hl (by decide) rfl (fun ls hl => ?_)
  have lp30 : ∀ fu : Nat, ∀ (k : Nat) (ww : Nat → Int32), (k ≤ cy.R 1 i) → (∀ z, z < k → ww z = shI cy i z) → cy.R 1 i - k < fu → ∀ (H : Heap) (locs : List Loc), CW E x cy (were :: Ks) H → va_S (fL E Ks) s.heap H locs → iA E were (cy.R 1 i) ww H → ∀ ls : Array Slot, lv_has ls 9 [(0, .ref x), (1, .int (nI i)), (2, .int (nI (cy.R 1 i))), (3, .int (cy.I 0 0)), (4, .int (eyS cy i)), (5, .int (pcS cy i (nI (cy.R 0 0)))), (6, .ref were), (7, .int (nI k))] → W p l e (rmk 7 2 22 135) s m ([.ref x, .int (nI i), .int (nI (cy.R 1 i))] : List Value).toArray below meth co H locs 1 (0 + (cy.R 1 i)) (MQ below (QiM (bI true) (fun H1 => CW E x (bfC cy i) Ks H1) (fL E Ks)) ([.ref x, .int (nI i), .int (nI (cy.R 1 i))] : List Value).toArray s 2 22 (fL E Ks)) (F0 m 30 ls []) := by
    intro fu
    induction fu with
    | zero => intro k ww hk hww hfu; exact absurd hfu (Nat.not_lt_zero _)
    | succ fu ih30 =>
      intro k ww hk hww hfu H locs hW hS hI_were ls hl
      refine lv_iload hx hb dL_isBuffed_30 (lv_at hl 7 rfl) ?_
      refine lv_iload_n hx hb dL_isBuffed_32 rfl (lv_at hl 2 rfl) ?_
      refine lv_icmpN_ge (tgt := 54) hx hb dL_isBuffed_33 (by decide) (by omega) (by omega) (fun c_33 => ?_) (fun c_33 => ?_)
      · skip
        refine lv_aload_n hx hb dL_isBuffed_54 rfl (lv_at hl 0 rfl) ?_
        refine lv_iload_n hx hb dL_isBuffed_55 rfl (lv_at hl 1 rfl) ?_
        by_cases hc : cy.I 0 0 < nI (ctbS cy i)
        · skip
          refine lt_V (xs := fun _ => xIS) (As := [.int (nI i)]) (rest := []) hx hb hml hown hC hS hAb hW (fun ly L ad hX => mX3_buff_b2 l hst hX i (show i < cy.R 10 0 by first | assumption | omega) (show cy.I 0 0 < nI (ctbS cy i) by first | assumption | omega)) kV_L_103 ⟨Nat.le_of_ble_eq_true rfl, Nat.le_of_ble_eq_true rfl⟩ rfl hl (Nat.le_of_ble_eq_true rfl) ⟨show 1 + 1 ≤ (2 : Nat) by omega, show 0 + (cy.R 1 i) + 6 ≤ (22 : Nat) by omega⟩ dL_isBuffed_56 (fun q9 ce H hW hS hz hk hce hcv hcl => ?_)
          have hI_were := hI_were.kept (hk were hI_were.lt)
          refine vx_catch hown (tableOf []) ⟨54, 96, 100, 106⟩ (tableOf []) (htab.trans rfl) (fun z hz => absurd hz List.not_mem_nil) rfl (by decide) (hC.2.1.hts _ _ wCl_L_106) (cs_xIS hC) hce hcv hcl ?_
          refine lv_astore (lv' := [(7, .ref q9), (0, .ref x), (1, .int (nI i)), (2, .int (nI (cy.R 1 i))), (3, .int (cy.I 0 0)), (4, .int (eyS cy i)), (5, .int (pcS cy i (nI (cy.R 0 0)))), (6, .ref were)]) hx hb dL_isBuffed_100 hl (by decide) rfl (fun ls hl => ?_)
          refine lv_iload hx hb dL_isBuffed_102 (lv_at hl 5 rfl) ?_
          refine lv_iload_n hx hb dL_isBuffed_104 rfl (lv_at hl 4 rfl) ?_
          refine lv_aload_n hx hb dL_isBuffed_105 rfl (lv_at hl 1 rfl) ?_
          refine lv_iload_n hx hb dL_isBuffed_106 rfl (lv_at hl 2 rfl) ?_
          refine lv_iconstN hx hb 1 dL_isBuffed_107 (by decide) ?_
          refine la_V (As := [.int (nI i), .int (nI 1)]) (rest := [.int (cy.I 0 0), .int (eyS cy i)]) (v := cy.I 2 i) hx hb hml hown hC hS hAb hW (fun ly L ad hX => RoI.cast ow1 (mX3_ofWall_g l hX i 1 (show i < cy.R 10 0 by first | assumption | omega) (show 1 ≤ 6 by first | assumption | omega))) kV_L_42 ⟨rfl, rfl⟩ ⟨Nat.le_of_ble_eq_true rfl, Nat.le_of_ble_eq_true rfl⟩ rfl hl (Nat.le_of_ble_eq_true rfl) ⟨show 2 ≤ (2 : Nat) by omega, show 0 + (cy.R 1 i) + 6 ≤ (22 : Nat) by omega⟩ dL_isBuffed_108 ?_
          refine lv_imul hx hb dL_isBuffed_111 ?_
          refine lv_icmp_le (tgt := 139) hx hb dL_isBuffed_112 (by decide) (fun c_112 => ?_) (fun c_112 => ?_)
          · skip
            have c_112 := Int32.not_lt.mpr c_112
            exact absurd (bu_ref wf G hi hc) c_112
          · skip
            have c_112 := Int32.not_le.mp c_112
            refine lv_aload_n hx hb dL_isBuffed_115 rfl (lv_at hl 1 rfl) ?_
            refine lv_iconstN hx hb 5 dL_isBuffed_116 (by decide) ?_
            refine la_V (As := [.int (nI 5)]) (rest := []) (v := cy.I 0 0) hx hb hml hown hC hS hAb hW (fun ly L ad hX => RoI.cast ma5 (mX3_many_g l hX 5 (show 5 ≤ 11 by first | assumption | omega))) kV_L_29 ⟨rfl, rfl⟩ ⟨Nat.le_of_ble_eq_true rfl, Nat.le_of_ble_eq_true rfl⟩ rfl hl (Nat.le_of_ble_eq_true rfl) ⟨show 2 ≤ (2 : Nat) by omega, show 0 + (cy.R 1 i) + 6 ≤ (22 : Nat) by omega⟩ dL_isBuffed_117 ?_
            refine lv_iload_n hx hb dL_isBuffed_120 rfl (lv_at hl 4 rfl) ?_
            refine lv_icmp_ne (tgt := 139) hx hb dL_isBuffed_121 (by decide) (fun c_121 => ?_) (fun c_121 => ?_)
            · skip
              exact absurd rfl c_121
            · skip
              refine lv_aload_n hx hb dL_isBuffed_124 rfl (lv_at hl 1 rfl) ?_
              refine lv_iload_n hx hb dL_isBuffed_125 rfl (lv_at hl 2 rfl) ?_
              refine lv_iconstN hx hb 5 dL_isBuffed_126 (by decide) ?_
              refine la_V (As := [.int (nI i), .int (nI 5)]) (rest := []) (v := eyS cy i) hx hb hml hown hC hS hAb hW (fun ly L ad hX => RoI.cast ow5 (mX3_ofWall_g l hX i 5 (show i < cy.R 10 0 by first | assumption | omega) (show 5 ≤ 6 by first | assumption | omega))) kV_L_42 ⟨rfl, rfl⟩ ⟨Nat.le_of_ble_eq_true rfl, Nat.le_of_ble_eq_true rfl⟩ rfl hl (Nat.le_of_ble_eq_true rfl) ⟨show 2 ≤ (2 : Nat) by omega, show 0 + (cy.R 1 i) + 6 ≤ (22 : Nat) by omega⟩ dL_isBuffed_127 ?_
              refine lv_iload hx hb dL_isBuffed_130 (lv_at hl 5 rfl) ?_
              refine lv_icmp_ne (tgt := 139) hx hb dL_isBuffed_132 (by decide) (fun c_132 => ?_) (fun c_132 => ?_)
              · skip
                exact absurd rfl c_132
              · skip
                refine lv_iconstN hx hb 1 dL_isBuffed_135 (by decide) ?_
                refine lv_goto (tgt := 140) hx hb dL_isBuffed_136 (by decide) ?_
                refine W.widen (k := 2) (n := 22) (by omega) (by omega) ?_
                exact mu_zretB (b1 := true) (b2 := true) hx hb hr hlocks hS (by rw [show bfC cy i = cy from if_pos hc]; exact hW.less (fun q h => List.mem_cons_of_mem _ h)) (by decide) rfl dL_isBuffed_140
        · skip
          refine lu_V (c2 := buC cy i) (As := [.int (nI i)]) (rest := []) (v := nI (ctbS cy i)) hx hb hml hown hC hS hAb (fun q h => ⟨h.1, fun z => h.2 (List.mem_cons_of_mem _ z)⟩) hW (fun ly L ad hX => mX3_buff_g l hX i (show i < cy.R 10 0 by first | assumption | omega) (show ¬ cy.I 0 0 < nI (ctbS cy i) by first | assumption | omega)) kV_L_103 ⟨rfl, rfl⟩ ⟨Nat.le_of_ble_eq_true rfl, Nat.le_of_ble_eq_true rfl⟩ rfl hl (Nat.le_of_ble_eq_true rfl) ⟨show 1 + 0 ≤ (2 : Nat) by omega, show 0 + (cy.R 1 i) + 0 ≤ (22 : Nat) by omega⟩ dL_isBuffed_56 (fun H locs hW hS hz hk => ?_)
          have hI_were := hI_were.kept (hk were (by simp))
          refine lv_istore (lv' := [(7, .int (nI (ctbS cy i))), (0, .ref x), (1, .int (nI i)), (2, .int (nI (cy.R 1 i))), (3, .int (cy.I 0 0)), (4, .int (eyS cy i)), (5, .int (pcS cy i (nI (cy.R 0 0)))), (6, .ref were)]) hx hb dL_isBuffed_59 hl (by decide) rfl (fun ls hl => ?_)
          refine lv_iload hx hb dL_isBuffed_61 (lv_at hl 0 rfl) ?_
          refine lv_aload_n hx hb dL_isBuffed_63 rfl (lv_at hl 1 rfl) ?_
          refine lv_iload_n hx hb dL_isBuffed_64 rfl (lv_at hl 2 rfl) ?_
          refine lv_iconstN hx hb 1 dL_isBuffed_65 (by decide) ?_
          refine la_V (As := [.int (nI i), .int (nI 1)]) (rest := [.int (nI (ctbS cy i))]) (v := cy.I 2 i) hx hb hml hown hC hS hAb hW (fun ly L ad hX => RoI.cast (ow1.trans (bu_I (by omega))) (mX3_ofWall_g l hX i 1 (show i < (buC cy i).R 10 0 by simp only [bu_R]; first | assumption | omega) (show 1 ≤ 6 by first | assumption | omega))) kV_L_42 ⟨rfl, rfl⟩ ⟨Nat.le_of_ble_eq_true rfl, Nat.le_of_ble_eq_true rfl⟩ rfl hl (Nat.le_of_ble_eq_true rfl) ⟨show 1 ≤ (2 : Nat) by omega, show 0 + (cy.R 1 i) + 0 ≤ (22 : Nat) by omega⟩ dL_isBuffed_66 ?_
          refine lv_imul hx hb dL_isBuffed_69 ?_
          refine lv_iload hx hb dL_isBuffed_70 (lv_at hl 5 rfl) ?_
          refine lv_icmp_ne (tgt := 95) hx hb dL_isBuffed_72 (by decide) (fun c_72 => ?_) (fun c_72 => ?_)
          · skip
            exact absurd (bu_mul i) c_72
          · skip
            refine lv_aload_n hx hb dL_isBuffed_75 rfl (lv_at hl 1 rfl) ?_
            refine lv_iconstN hx hb 5 dL_isBuffed_76 (by decide) ?_
            refine la_V (As := [.int (nI 5)]) (rest := []) (v := cy.I 0 0 - nI (ctbS cy i)) hx hb hml hown hC hS hAb hW (fun ly L ad hX => RoI.cast (ma5.trans bu_I0) (mX3_many_g l hX 5 (show 5 ≤ 11 by first | assumption | omega))) kV_L_29 ⟨rfl, rfl⟩ ⟨Nat.le_of_ble_eq_true rfl, Nat.le_of_ble_eq_true rfl⟩ rfl hl (Nat.le_of_ble_eq_true rfl) ⟨show 1 ≤ (2 : Nat) by omega, show 0 + (cy.R 1 i) + 0 ≤ (22 : Nat) by omega⟩ dL_isBuffed_77 ?_
            refine lv_iload_n hx hb dL_isBuffed_80 rfl (lv_at hl 4 rfl) ?_
            refine lv_iload hx hb dL_isBuffed_81 (lv_at hl 0 rfl) ?_
            refine lv_isub hx hb dL_isBuffed_83 ?_
            refine lv_icmp_ne (tgt := 95) hx hb dL_isBuffed_84 (by decide) (fun c_84 => ?_) (fun c_84 => ?_)
            · skip
              exact absurd rfl c_84
            · skip
              refine lv_aload_n hx hb dL_isBuffed_87 rfl (lv_at hl 1 rfl) ?_
              refine lv_iconstN hx hb 5 dL_isBuffed_88 (by decide) ?_
              refine la_V (As := [.int (nI 5)]) (rest := []) (v := cy.I 0 0 - nI (ctbS cy i)) hx hb hml hown hC hS hAb hW (fun ly L ad hX => RoI.cast (ma5.trans bu_I0) (mX3_many_g l hX 5 (show 5 ≤ 11 by first | assumption | omega))) kV_L_29 ⟨rfl, rfl⟩ ⟨Nat.le_of_ble_eq_true rfl, Nat.le_of_ble_eq_true rfl⟩ rfl hl (Nat.le_of_ble_eq_true rfl) ⟨show 1 ≤ (2 : Nat) by omega, show 0 + (cy.R 1 i) + 0 ≤ (22 : Nat) by omega⟩ dL_isBuffed_89 ?_
              refine lv_if_ge (tgt := 97) hx hb dL_isBuffed_92 (by decide) (fun c_92 => ?_) (fun c_92 => ?_)
              · skip
                have c_92 := Int32.not_lt.mpr c_92
                refine lv_goto (tgt := 141) hx hb dL_isBuffed_97 (by decide) ?_
                refine lv_iconstN hx hb 0 dL_isBuffed_141 (by decide) ?_
                refine lv_istore (lv' := [(7, .int (nI 0)), (0, .ref x), (1, .int (nI i)), (2, .int (nI (cy.R 1 i))), (3, .int (cy.I 0 0)), (4, .int (eyS cy i)), (5, .int (pcS cy i (nI (cy.R 0 0)))), (6, .ref were)]) hx hb dL_isBuffed_142 hl (by decide) rfl (fun ls hl => ?_)
                have lp144 : ∀ fu : Nat, ∀ (k : Nat), (k ≤ cy.R 1 i) → cy.R 1 i - k < fu → ∀ ls : Array Slot, lv_has ls 9 [(0, .ref x), (1, .int (nI i)), (2, .int (nI (cy.R 1 i))), (5, .int (pcS cy i (nI (cy.R 0 0)))), (6, .ref were), (7, .int (nI k))] → W p l e (rmk 7 2 22 135) s m ([.ref x, .int (nI i), .int (nI (cy.R 1 i))] : List Value).toArray below meth co H locs 1 (0 + (cy.R 1 i) + 0) (MQ below (QiM (bI true) (fun H1 => CW E x (bfC cy i) Ks H1) (fL E Ks)) ([.ref x, .int (nI i), .int (nI (cy.R 1 i))] : List Value).toArray s 2 22 (fL E Ks)) (F0 m 144 ls []) := by
                  intro fu
                  induction fu with
                  | zero => intro k hk hfu; exact absurd hfu (Nat.not_lt_zero _)
                  | succ fu ih144 =>
                    intro k hk hfu ls hl
                    refine lv_iload hx hb dL_isBuffed_144 (lv_at hl 5 rfl) ?_
                    refine lv_iload_n hx hb dL_isBuffed_146 rfl (lv_at hl 2 rfl) ?_
                    refine lv_icmpN_ge (tgt := 232) hx hb dL_isBuffed_147 (by decide) (by omega) (by omega) (fun c_147 => ?_) (fun c_147 => ?_)
                    · skip
                      refine lv_iconstN hx hb 1 dL_isBuffed_232 (by decide) ?_
                      refine W.widen (k := 2) (n := 22) (by omega) (by omega) ?_
                      exact mu_zretB (b1 := true) (b2 := true) hx hb hr hlocks hS (by rw [show bfC cy i = buC cy i from if_neg hc]; exact hW.less (fun q h => List.mem_cons_of_mem _ h)) (by decide) rfl dL_isBuffed_233
                    · skip
                      rcases hd : cy.sh i k with _ | j
                      · skip
                        refine lv_aload hx hb dL_isBuffed_150 (lv_at hl 4 rfl) ?_
                        refine lv_iload hx hb dL_isBuffed_152 (lv_at hl 5 rfl) ?_
                        refine li_ld hx hb hC hI_were (j := k) (by first | assumption | omega) (by omega) dL_isBuffed_154 ?_
                        rw [show ww k = (-1) from (hww k (by omega)).trans (shI_n hd)]
                        refine lv_if_lt (tgt := 197) hx hb dL_isBuffed_155 (by decide) (fun c_155 => ?_) (fun c_155 => ?_)
                        · skip
                          refine lv_iconstN hx hb 0 dL_isBuffed_197 (by decide) ?_
                          refine lv_istore (lv' := [(8, .int (nI 0)), (0, .ref x), (1, .int (nI i)), (2, .int (nI (cy.R 1 i))), (5, .int (pcS cy i (nI (cy.R 0 0)))), (6, .ref were), (7, .int (nI k))]) hx hb dL_isBuffed_198 hl (by decide) rfl (fun ls hl => ?_)
                          refine lv_aload_n hx hb dL_isBuffed_200 rfl (lv_at hl 1 rfl) ?_
                          refine lv_iload_n hx hb dL_isBuffed_201 rfl (lv_at hl 2 rfl) ?_
                          refine lv_iload hx hb dL_isBuffed_202 (lv_at hl 6 rfl) ?_
                          refine la_V (As := [.int (nI i), .int (nI k)]) (rest := []) (v := (-1)) hx hb hml hown hC hS hAb hW (fun ly L ad hX => RoI.cast (bu_n hd) (mX3_shows_g l hX i k (show i < (buC cy i).R 10 0 by simp only [bu_R]; first | assumption | omega) (show k < (buC cy i).R 1 i by simp only [bu_R]; first | assumption | omega))) kV_L_100 ⟨rfl, rfl⟩ ⟨Nat.le_of_ble_eq_true rfl, Nat.le_of_ble_eq_true rfl⟩ rfl hl (Nat.le_of_ble_eq_true rfl) ⟨show 1 ≤ (2 : Nat) by omega, show 0 + (cy.R 1 i) + 0 ≤ (22 : Nat) by omega⟩ dL_isBuffed_204 ?_
                          refine lv_iload hx hb dL_isBuffed_207 (lv_at hl 0 rfl) ?_
                          refine lv_ifN_eq (tgt := 220) hx hb dL_isBuffed_209 (by decide) (by omega) (fun c_209 => ?_) (fun c_209 => ?_)
                          · skip
                            refine lv_iconst (v := -1) hx hb dL_isBuffed_220 (by decide) ?_
                            refine lv_icmp_eq (tgt := 226) hx hb dL_isBuffed_221 (by decide) (fun c_221 => ?_) (fun c_221 => ?_)
                            · skip
                              refine lv_iincN (v := 1) (lv' := [(7, .int (nI (k + 1))), (8, .int (nI 0)), (0, .ref x), (1, .int (nI i)), (2, .int (nI (cy.R 1 i))), (5, .int (pcS cy i (nI (cy.R 0 0)))), (6, .ref were)]) hx hb dL_isBuffed_226 hl (k := 6) rfl (by decide) (by decide) rfl (fun ls hl => ?_)
                              refine lv_goto (tgt := 144) hx hb dL_isBuffed_229 (by decide) ?_
                              exact ih144 (k + 1) (by omega) (by omega) _ (lv_sub hl [2, 3, 4, 5, 6, 0] rfl)
                            · skip
                              exact absurd rfl c_221
                          · skip
                            exact absurd c_209 (by decide)
                        · skip
                          exact absurd (by decide) c_155
                      · skip
                        have hj : j < cy.R 10 2 := by rw [G.nl]; exact wf.sj (show i < cy.R 11 0 by omega) (show k < cy.R 1 i by omega) hd
                        have hj6 : cy.R 10 2 ≤ 60 := by rw [G.nl]; exact wf.nl
                        have hoj : cy.R 5 j < cy.R 10 1 := by rw [G.nh, ← G.nh1]; exact wf.lh (by rw [← G.nl]; exact hj)
                        have hoj8 : cy.R 10 1 ≤ 8 := by rw [G.nh, ← G.nh1]; exact wf.nh
                        cases hbj : cy.B 1 j with
                        | false =>
                          refine lv_aload hx hb dL_isBuffed_150 (lv_at hl 4 rfl) ?_
                          refine lv_iload hx hb dL_isBuffed_152 (lv_at hl 5 rfl) ?_
                          refine li_ld hx hb hC hI_were (j := k) (by first | assumption | omega) (by omega) dL_isBuffed_154 ?_
                          rw [show ww k = nI j from (hww k (by omega)).trans (shI_s hd)]
                          refine lv_if_lt (tgt := 197) hx hb dL_isBuffed_155 (by decide) (fun c_155 => ?_) (fun c_155 => ?_)
                          · skip
                            exact absurd c_155 (nI_pos (by omega))
                          · skip
                            refine lv_aload_n hx hb dL_isBuffed_158 rfl (lv_at hl 0 rfl) ?_
                            refine lv_aload hx hb dL_isBuffed_159 (lv_at hl 4 rfl) ?_
                            refine lv_iload hx hb dL_isBuffed_161 (lv_at hl 5 rfl) ?_
                            refine li_ld hx hb hC hI_were (j := k) (by first | assumption | omega) (by omega) dL_isBuffed_163 ?_
                            rw [show ww k = nI j from (hww k (by omega)).trans (shI_s hd)]
                            refine lv_bipushN hx hb 6 dL_isBuffed_164 (by decide) ?_
                            refine la_V (As := [.int (nI j), .int (nI 6)]) (rest := []) (v := nI 0) hx hb hml hown hC hS hAb hW (fun ly L ad hX => RoI.cast (ol6.trans (by rw [bu_B, hbj]; rfl)) (mX3_ofLayer_g l hX j 6 (show j < (buC cy i).R 10 2 by simp only [bu_R]; first | assumption | omega) (show 6 ≤ 13 by first | assumption | omega))) kV_L_55 ⟨rfl, rfl⟩ ⟨Nat.le_of_ble_eq_true rfl, Nat.le_of_ble_eq_true rfl⟩ rfl hl (Nat.le_of_ble_eq_true rfl) ⟨show 1 ≤ (2 : Nat) by omega, show 0 + (cy.R 1 i) + 0 ≤ (22 : Nat) by omega⟩ dL_isBuffed_166 ?_
                            refine lv_iconstN hx hb 1 dL_isBuffed_169 (by decide) ?_
                            refine lv_icmpN_ne (tgt := 197) hx hb dL_isBuffed_170 (by decide) (by omega) (by omega) (fun c_170 => ?_) (fun c_170 => ?_)
                            · skip
                              refine lv_iconstN hx hb 0 dL_isBuffed_197 (by decide) ?_
                              refine lv_istore (lv' := [(8, .int (nI 0)), (0, .ref x), (1, .int (nI i)), (2, .int (nI (cy.R 1 i))), (5, .int (pcS cy i (nI (cy.R 0 0)))), (6, .ref were), (7, .int (nI k))]) hx hb dL_isBuffed_198 hl (by decide) rfl (fun ls hl => ?_)
                              refine lv_aload_n hx hb dL_isBuffed_200 rfl (lv_at hl 1 rfl) ?_
                              refine lv_iload_n hx hb dL_isBuffed_201 rfl (lv_at hl 2 rfl) ?_
                              refine lv_iload hx hb dL_isBuffed_202 (lv_at hl 6 rfl) ?_
                              refine la_V (As := [.int (nI i), .int (nI k)]) (rest := []) (v := (-1)) hx hb hml hown hC hS hAb hW (fun ly L ad hX => RoI.cast (bu_b (by omega) hd hbj) (mX3_shows_g l hX i k (show i < (buC cy i).R 10 0 by simp only [bu_R]; first | assumption | omega) (show k < (buC cy i).R 1 i by simp only [bu_R]; first | assumption | omega))) kV_L_100 ⟨rfl, rfl⟩ ⟨Nat.le_of_ble_eq_true rfl, Nat.le_of_ble_eq_true rfl⟩ rfl hl (Nat.le_of_ble_eq_true rfl) ⟨show 1 ≤ (2 : Nat) by omega, show 0 + (cy.R 1 i) + 0 ≤ (22 : Nat) by omega⟩ dL_isBuffed_204 ?_
                              refine lv_iload hx hb dL_isBuffed_207 (lv_at hl 0 rfl) ?_
                              refine lv_ifN_eq (tgt := 220) hx hb dL_isBuffed_209 (by decide) (by omega) (fun c_209 => ?_) (fun c_209 => ?_)
                              · skip
                                refine lv_iconst (v := -1) hx hb dL_isBuffed_220 (by decide) ?_
                                refine lv_icmp_eq (tgt := 226) hx hb dL_isBuffed_221 (by decide) (fun c_221 => ?_) (fun c_221 => ?_)
                                · skip
                                  refine lv_iincN (v := 1) (lv' := [(7, .int (nI (k + 1))), (8, .int (nI 0)), (0, .ref x), (1, .int (nI i)), (2, .int (nI (cy.R 1 i))), (5, .int (pcS cy i (nI (cy.R 0 0)))), (6, .ref were)]) hx hb dL_isBuffed_226 hl (k := 6) rfl (by decide) (by decide) rfl (fun ls hl => ?_)
                                  refine lv_goto (tgt := 144) hx hb dL_isBuffed_229 (by decide) ?_
                                  exact ih144 (k + 1) (by omega) (by omega) _ (lv_sub hl [2, 3, 4, 5, 6, 0] rfl)
                                · skip
                                  exact absurd rfl c_221
                              · skip
                                exact absurd c_209 (by decide)
                            · skip
                              omega
                        | true =>
                          refine lv_aload hx hb dL_isBuffed_150 (lv_at hl 4 rfl) ?_
                          refine lv_iload hx hb dL_isBuffed_152 (lv_at hl 5 rfl) ?_
                          refine li_ld hx hb hC hI_were (j := k) (by first | assumption | omega) (by omega) dL_isBuffed_154 ?_
                          rw [show ww k = nI j from (hww k (by omega)).trans (shI_s hd)]
                          refine lv_if_lt (tgt := 197) hx hb dL_isBuffed_155 (by decide) (fun c_155 => ?_) (fun c_155 => ?_)
                          · skip
                            exact absurd c_155 (nI_pos (by omega))
                          · skip
                            refine lv_aload_n hx hb dL_isBuffed_158 rfl (lv_at hl 0 rfl) ?_
                            refine lv_aload hx hb dL_isBuffed_159 (lv_at hl 4 rfl) ?_
                            refine lv_iload hx hb dL_isBuffed_161 (lv_at hl 5 rfl) ?_
                            refine li_ld hx hb hC hI_were (j := k) (by first | assumption | omega) (by omega) dL_isBuffed_163 ?_
                            rw [show ww k = nI j from (hww k (by omega)).trans (shI_s hd)]
                            refine lv_bipushN hx hb 6 dL_isBuffed_164 (by decide) ?_
                            refine la_V (As := [.int (nI j), .int (nI 6)]) (rest := []) (v := nI 1) hx hb hml hown hC hS hAb hW (fun ly L ad hX => RoI.cast (ol6.trans (by rw [bu_B, hbj]; rfl)) (mX3_ofLayer_g l hX j 6 (show j < (buC cy i).R 10 2 by simp only [bu_R]; first | assumption | omega) (show 6 ≤ 13 by first | assumption | omega))) kV_L_55 ⟨rfl, rfl⟩ ⟨Nat.le_of_ble_eq_true rfl, Nat.le_of_ble_eq_true rfl⟩ rfl hl (Nat.le_of_ble_eq_true rfl) ⟨show 1 ≤ (2 : Nat) by omega, show 0 + (cy.R 1 i) + 0 ≤ (22 : Nat) by omega⟩ dL_isBuffed_166 ?_
                            refine lv_iconstN hx hb 1 dL_isBuffed_169 (by decide) ?_
                            refine lv_icmpN_ne (tgt := 197) hx hb dL_isBuffed_170 (by decide) (by omega) (by omega) (fun c_170 => ?_) (fun c_170 => ?_)
                            · skip
                              omega
                            · skip
                              refine lv_aload_n hx hb dL_isBuffed_173 rfl (lv_at hl 0 rfl) ?_
                              refine lv_aload_n hx hb dL_isBuffed_174 rfl (lv_at hl 0 rfl) ?_
                              refine lv_aload hx hb dL_isBuffed_175 (lv_at hl 4 rfl) ?_
                              refine lv_iload hx hb dL_isBuffed_177 (lv_at hl 5 rfl) ?_
                              refine li_ld hx hb hC hI_were (j := k) (by first | assumption | omega) (by omega) dL_isBuffed_179 ?_
                              rw [show ww k = nI j from (hww k (by omega)).trans (shI_s hd)]
                              refine lv_iconstN hx hb 0 dL_isBuffed_180 (by decide) ?_
                              refine la_V (As := [.int (nI j), .int (nI 0)]) (rest := [.ref x]) (v := nI (cy.R 5 j)) hx hb hml hown hC hS hAb hW (fun ly L ad hX => RoI.cast (ol0.trans (by rw [bu_R])) (mX3_ofLayer_g l hX j 0 (show j < (buC cy i).R 10 2 by simp only [bu_R]; first | assumption | omega) (show 0 ≤ 13 by first | assumption | omega))) kV_L_55 ⟨rfl, rfl⟩ ⟨Nat.le_of_ble_eq_true rfl, Nat.le_of_ble_eq_true rfl⟩ rfl hl (Nat.le_of_ble_eq_true rfl) ⟨show 1 ≤ (2 : Nat) by omega, show 0 + (cy.R 1 i) + 0 ≤ (22 : Nat) by omega⟩ dL_isBuffed_181 ?_
                              refine lv_iconstN hx hb 0 dL_isBuffed_184 (by decide) ?_
                              refine la_V (As := [.int (nI (cy.R 5 j)), .int (nI 0)]) (rest := []) (v := cy.I 8 (cy.R 5 j)) hx hb hml hown hC hS hAb hW (fun ly L ad hX => RoI.cast (oh0.trans (bu_I (by omega))) (mX3_ofHand_g l hX (cy.R 5 j) 0 (show (cy.R 5 j) < (buC cy i).R 10 1 by simp only [bu_R]; first | assumption | omega) (show 0 ≤ 10 by first | assumption | omega))) kV_L_68 ⟨rfl, rfl⟩ ⟨Nat.le_of_ble_eq_true rfl, Nat.le_of_ble_eq_true rfl⟩ rfl hl (Nat.le_of_ble_eq_true rfl) ⟨show 1 ≤ (2 : Nat) by omega, show 0 + (cy.R 1 i) + 0 ≤ (22 : Nat) by omega⟩ dL_isBuffed_185 ?_
                              refine lv_iload hx hb dL_isBuffed_188 (lv_at hl 3 rfl) ?_
                              refine lv_icmp_ne (tgt := 197) hx hb dL_isBuffed_190 (by decide) (fun c_190 => ?_) (fun c_190 => ?_)
                              · skip
                                refine lv_iconstN hx hb 0 dL_isBuffed_197 (by decide) ?_
                                refine lv_istore (lv' := [(8, .int (nI 0)), (0, .ref x), (1, .int (nI i)), (2, .int (nI (cy.R 1 i))), (5, .int (pcS cy i (nI (cy.R 0 0)))), (6, .ref were), (7, .int (nI k))]) hx hb dL_isBuffed_198 hl (by decide) rfl (fun ls hl => ?_)
                                refine lv_aload_n hx hb dL_isBuffed_200 rfl (lv_at hl 1 rfl) ?_
                                refine lv_iload_n hx hb dL_isBuffed_201 rfl (lv_at hl 2 rfl) ?_
                                refine lv_iload hx hb dL_isBuffed_202 (lv_at hl 6 rfl) ?_
                                refine la_V (As := [.int (nI i), .int (nI k)]) (rest := []) (v := (-1)) hx hb hml hown hC hS hAb hW (fun ly L ad hX => RoI.cast (bu_c (by omega) hd c_190) (mX3_shows_g l hX i k (show i < (buC cy i).R 10 0 by simp only [bu_R]; first | assumption | omega) (show k < (buC cy i).R 1 i by simp only [bu_R]; first | assumption | omega))) kV_L_100 ⟨rfl, rfl⟩ ⟨Nat.le_of_ble_eq_true rfl, Nat.le_of_ble_eq_true rfl⟩ rfl hl (Nat.le_of_ble_eq_true rfl) ⟨show 1 ≤ (2 : Nat) by omega, show 0 + (cy.R 1 i) + 0 ≤ (22 : Nat) by omega⟩ dL_isBuffed_204 ?_
                                refine lv_iload hx hb dL_isBuffed_207 (lv_at hl 0 rfl) ?_
                                refine lv_ifN_eq (tgt := 220) hx hb dL_isBuffed_209 (by decide) (by omega) (fun c_209 => ?_) (fun c_209 => ?_)
                                · skip
                                  refine lv_iconst (v := -1) hx hb dL_isBuffed_220 (by decide) ?_
                                  refine lv_icmp_eq (tgt := 226) hx hb dL_isBuffed_221 (by decide) (fun c_221 => ?_) (fun c_221 => ?_)
                                  · skip
                                    refine lv_iincN (v := 1) (lv' := [(7, .int (nI (k + 1))), (8, .int (nI 0)), (0, .ref x), (1, .int (nI i)), (2, .int (nI (cy.R 1 i))), (5, .int (pcS cy i (nI (cy.R 0 0)))), (6, .ref were)]) hx hb dL_isBuffed_226 hl (k := 6) rfl (by decide) (by decide) rfl (fun ls hl => ?_)
                                    refine lv_goto (tgt := 144) hx hb dL_isBuffed_229 (by decide) ?_
                                    exact ih144 (k + 1) (by omega) (by omega) _ (lv_sub hl [2, 3, 4, 5, 6, 0] rfl)
                                  · skip
                                    exact absurd rfl c_221
                                · skip
                                  exact absurd c_209 (by decide)
                              · skip
                                refine lv_iconstN hx hb 1 dL_isBuffed_193 (by decide) ?_
                                refine lv_goto (tgt := 198) hx hb dL_isBuffed_194 (by decide) ?_
                                refine lv_istore (lv' := [(8, .int (nI 1)), (0, .ref x), (1, .int (nI i)), (2, .int (nI (cy.R 1 i))), (5, .int (pcS cy i (nI (cy.R 0 0)))), (6, .ref were), (7, .int (nI k))]) hx hb dL_isBuffed_198 hl (by decide) rfl (fun ls hl => ?_)
                                refine lv_aload_n hx hb dL_isBuffed_200 rfl (lv_at hl 1 rfl) ?_
                                refine lv_iload_n hx hb dL_isBuffed_201 rfl (lv_at hl 2 rfl) ?_
                                refine lv_iload hx hb dL_isBuffed_202 (lv_at hl 6 rfl) ?_
                                refine la_V (As := [.int (nI i), .int (nI k)]) (rest := []) (v := nI j) hx hb hml hown hC hS hAb hW (fun ly L ad hX => RoI.cast (bu_l hd hbj c_190) (mX3_shows_g l hX i k (show i < (buC cy i).R 10 0 by simp only [bu_R]; first | assumption | omega) (show k < (buC cy i).R 1 i by simp only [bu_R]; first | assumption | omega))) kV_L_100 ⟨rfl, rfl⟩ ⟨Nat.le_of_ble_eq_true rfl, Nat.le_of_ble_eq_true rfl⟩ rfl hl (Nat.le_of_ble_eq_true rfl) ⟨show 1 ≤ (2 : Nat) by omega, show 0 + (cy.R 1 i) + 0 ≤ (22 : Nat) by omega⟩ dL_isBuffed_204 ?_
                                refine lv_iload hx hb dL_isBuffed_207 (lv_at hl 0 rfl) ?_
                                refine lv_ifN_eq (tgt := 220) hx hb dL_isBuffed_209 (by decide) (by omega) (fun c_209 => ?_) (fun c_209 => ?_)
                                · skip
                                  exact absurd c_209 (by decide)
                                · skip
                                  refine lv_aload hx hb dL_isBuffed_212 (lv_at hl 5 rfl) ?_
                                  refine lv_iload hx hb dL_isBuffed_214 (lv_at hl 6 rfl) ?_
                                  refine li_ld hx hb hC hI_were (j := k) (by first | assumption | omega) (by omega) dL_isBuffed_216 ?_
                                  rw [show ww k = nI j from (hww k (by omega)).trans (shI_s hd)]
                                  refine lv_goto (tgt := 221) hx hb dL_isBuffed_217 (by decide) ?_
                                  refine lv_icmpN_eq (tgt := 226) hx hb dL_isBuffed_221 (by decide) (by omega) (by omega) (fun c_221 => ?_) (fun c_221 => ?_)
                                  · skip
                                    refine lv_iincN (v := 1) (lv' := [(7, .int (nI (k + 1))), (8, .int (nI 1)), (0, .ref x), (1, .int (nI i)), (2, .int (nI (cy.R 1 i))), (5, .int (pcS cy i (nI (cy.R 0 0)))), (6, .ref were)]) hx hb dL_isBuffed_226 hl (k := 6) rfl (by decide) (by decide) rfl (fun ls hl => ?_)
                                    refine lv_goto (tgt := 144) hx hb dL_isBuffed_229 (by decide) ?_
                                    exact ih144 (k + 1) (by omega) (by omega) _ (lv_sub hl [2, 3, 4, 5, 6, 0] rfl)
                                  · skip
                                    exact absurd rfl c_221
                exact lp144 (cy.R 1 i - 0 + 1) 0 (Nat.zero_le _) (Nat.lt_succ_self _) _ (lv_sub hl [1, 2, 3, 6, 7, 0] rfl)
              · skip
                have c_92 := Int32.not_le.mp c_92
                obtain ⟨C, e9, hC9⟩ := bu_coin wf G hi hc; exact absurd c_92 (by rw [e9]; exact nI_pos (by have := wf.nt; omega))
      · skip
        refine lv_aload hx hb dL_isBuffed_36 (lv_at hl 6 rfl) ?_
        refine lv_iload hx hb dL_isBuffed_38 (lv_at hl 7 rfl) ?_
        refine lv_aload_n hx hb dL_isBuffed_40 rfl (lv_at hl 0 rfl) ?_
        refine lv_iload_n hx hb dL_isBuffed_41 rfl (lv_at hl 1 rfl) ?_
        refine lv_iload hx hb dL_isBuffed_42 (lv_at hl 7 rfl) ?_
        refine la_V (As := [.int (nI i), .int (nI k)]) (rest := [.int (nI k), .ref were]) (v := shI cy i k) hx hb hml hown hC hS hAb hW (fun ly L ad hX => mX3_shows_g l hX i k (show i < cy.R 10 0 by first | assumption | omega) (show k < cy.R 1 i by first | assumption | omega)) kV_L_100 ⟨rfl, rfl⟩ ⟨Nat.le_of_ble_eq_true rfl, Nat.le_of_ble_eq_true rfl⟩ rfl hl (Nat.le_of_ble_eq_true rfl) ⟨show 1 ≤ (2 : Nat) by omega, show 0 + (cy.R 1 i) ≤ (22 : Nat) by omega⟩ dL_isBuffed_44 ?_
        refine li_st (v := shI cy i k) hx hb hC hI_were hW hS hA_were (by simp) (j := k) (by first | assumption | omega) (by omega) dL_isBuffed_47 (fun H locs hI_were hW hS hz hk => ?_)
        refine lv_iincN (v := 1) (lv' := [(7, .int (nI (k + 1))), (0, .ref x), (1, .int (nI i)), (2, .int (nI (cy.R 1 i))), (3, .int (cy.I 0 0)), (4, .int (eyS cy i)), (5, .int (pcS cy i (nI (cy.R 0 0)))), (6, .ref were)]) hx hb dL_isBuffed_48 hl (k := 7) rfl (by decide) (by decide) rfl (fun ls hl => ?_)
        refine lv_goto (tgt := 30) hx hb dL_isBuffed_51 (by decide) ?_
        exact ih30 (k + 1) (upd ww k (shI cy i k)) (by omega) (up_ext hww) (by omega) _ _ hW hS hI_were _ (lv_sub hl [1, 2, 3, 4, 5, 6, 7, 0] rfl)
  exact lp30 (cy.R 1 i - 0 + 1) 0 (fun _ => nI 0) (Nat.zero_le _) (fun z hz => absurd hz (Nat.not_lt_zero _)) (Nat.lt_succ_self _) _ _ hW hS hI_were _ (lv_sub hl [5, 6, 7, 4, 3, 2, 1, 0] rfl)
