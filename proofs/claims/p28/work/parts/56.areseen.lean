/-! areSeen -/
set_option maxHeartbeats 8000000 in
set_option maxRecDepth 100000 in
theorem mL_areSeen (l : Launch) {E : En} {x : Nat} {cy : Cy} {Ks : List Nat} {H0 : Heap} {aw af hs : Nat} {F g : Nat → Int32} (hW : CW E x cy Ks H0) (hI_aw : iA E aw 3 g H0) (hI_af : iA E af hs F H0) (hKw : aw ∈ Ks) (hKf : af ∈ Ks) {t : Nat} (G : GI cy g hs F t) (hs3 : 3 ≤ hs) : MuI l yL_areSeen cL_areSeen 10 .boolean (rmk 6 1 8 135) [.ref x, .ref aw, .int (nI hs), .ref af] E H0 (bI true) (fun H1 => CW E x cy Ks H1) (fL E Ks) 1 8 := by
  have wf := hW.wf
  have hw3 := G.nw
  have hw1 := G.nw1
  have hwh := G.nh
  have hwh1 := G.nh1
  have hwl := G.nl
  have hwl6 := wf.nl
  have hwh8 := wf.nh
  refine ro_of (by decide) (Nat.le_of_ble_eq_true rfl) ?_
  intro p e s m below meth co ls hx hb hr hml hown hlocks hnm hC hU hl
  have hS : va_S (fL E Ks) s.heap H0 [] := by rw [hU]; exact va_S.rf
  have hAb : ∀ q, fL E Ks q → bA E q := fun q h => h.1
  have hl : lv_has ls 10 [(0, .ref x), (1, .ref aw), (2, .int (nI hs)), (3, .ref af)] := hl
  refine lv_iload_n hx hb dL_areSeen_0 rfl (lv_at hl 2 rfl) ?_
  refine li_new (n := hs) hx hb hC hW hS (by omega) ⟨show 0 + 1 ≤ (1 : Nat) by omega, show 0 + hs ≤ (8 : Nat) by omega⟩ dL_areSeen_1 (fun fm H hfq hA_fm hI_fm hW hS hk => ?_)
  have hne_aw_fm : aw ≠ fm := by have h9 := hI_aw.lt; omega
  have hne_af_fm : af ≠ fm := by have h9 := hI_af.lt; omega
  have hI_aw := hI_aw.kept (hk aw hI_aw.lt)
  have hI_af := hI_af.kept (hk af hI_af.lt)
  refine lv_astore (lv' := [(4, .ref fm), (0, .ref x), (1, .ref aw), (2, .int (nI hs)), (3, .ref af)]) hx hb dL_areSeen_3 hl (by decide) rfl (fun ls hl => ?_)
  refine lv_iconstN hx hb 0 dL_areSeen_5 (by decide) ?_
  refine lv_istore (lv' := [(5, .int (nI 0)), (4, .ref fm), (0, .ref x), (1, .ref aw), (2, .int (nI hs)), (3, .ref af)]) hx hb dL_areSeen_6 hl (by decide) rfl (fun ls hl => ?_)
  refine lv_iconstN hx hb 0 dL_areSeen_8 (by decide) ?_
  refine lv_istore (lv' := [(6, .int (nI 0)), (5, .int (nI 0)), (4, .ref fm), (0, .ref x), (1, .ref aw), (2, .int (nI hs)), (3, .ref af)]) hx hb dL_areSeen_9 hl (by decide) rfl (fun ls hl => ?_)
  have lp11 : ∀ fu : Nat, ∀ (w ce : Nat) (ff : Nat → Int32), (w ≤ 3) → (ce = ceP cy w 0) → (∀ z, z < hs → ff z = faP cy z w 0) → 3 - w < fu → ∀ (H : Heap) (locs : List Loc), CW E x cy (fm :: Ks) H → va_S (fL E Ks) s.heap H locs → iA E aw 3 g H → iA E af hs F H → iA E fm hs ff H → ∀ ls : Array Slot, lv_has ls 10 [(0, .ref x), (1, .ref aw), (2, .int (nI hs)), (3, .ref af), (4, .ref fm), (5, .int (nI ce)), (6, .int (nI w))] → W p l e (rmk 6 1 8 135) s m ([.ref x, .ref aw, .int (nI hs), .ref af] : List Value).toArray below meth co H locs 1 (0 + hs) (MQ below (QiM (bI true) (fun H1 => CW E x cy Ks H1) (fL E Ks)) ([.ref x, .ref aw, .int (nI hs), .ref af] : List Value).toArray s 1 8 (fL E Ks)) (F0 m 11 ls []) := by
    intro fu
    induction fu with
    | zero => intro w ce ff hw hce hff hfu; exact absurd hfu (Nat.not_lt_zero _)
    | succ fu ih11 =>
      intro w ce ff hw hce hff hfu H locs hW hS hI_aw hI_af hI_fm ls hl
      refine lv_iload hx hb dL_areSeen_11 (lv_at hl 6 rfl) ?_
      refine lv_iconstN hx hb 3 dL_areSeen_13 (by decide) ?_
      refine lv_icmpN_ge (tgt := 153) hx hb dL_areSeen_14 (by decide) (by omega) (by omega) (fun c_14 => ?_) (fun c_14 => ?_)
      · skip
        refine lv_iconstN hx hb 0 dL_areSeen_153 (by decide) ?_
        refine lv_istore (lv' := [(6, .int (nI 0)), (0, .ref x), (1, .ref aw), (2, .int (nI hs)), (3, .ref af), (4, .ref fm), (5, .int (nI ce))]) hx hb dL_areSeen_154 hl (by decide) rfl (fun ls hl => ?_)
        refine lv_iconstN hx hb 0 dL_areSeen_156 (by decide) ?_
        refine lv_istore (lv' := [(7, .int (nI 0)), (6, .int (nI 0)), (0, .ref x), (1, .ref aw), (2, .int (nI hs)), (3, .ref af), (4, .ref fm), (5, .int (nI ce))]) hx hb dL_areSeen_157 hl (by decide) rfl (fun ls hl => ?_)
        refine lv_iconstN hx hb 0 dL_areSeen_159 (by decide) ?_
        refine lv_istore (lv' := [(8, .int (nI 0)), (7, .int (nI 0)), (6, .int (nI 0)), (0, .ref x), (1, .ref aw), (2, .int (nI hs)), (3, .ref af), (4, .ref fm), (5, .int (nI ce))]) hx hb dL_areSeen_160 hl (by decide) rfl (fun ls hl => ?_)
        refine lv_iconstN hx hb 0 dL_areSeen_162 (by decide) ?_
        refine lv_istore (lv' := [(9, .int (nI 0)), (8, .int (nI 0)), (7, .int (nI 0)), (6, .int (nI 0)), (0, .ref x), (1, .ref aw), (2, .int (nI hs)), (3, .ref af), (4, .ref fm), (5, .int (nI ce))]) hx hb dL_areSeen_163 hl (by decide) rfl (fun ls hl => ?_)
        have lp165 : ∀ fu : Nat, ∀ (k : Nat) (su di ha : Int32), (k ≤ hs) → (su = smI (fun z => fmS cy z) k) → (di = smI (fun z => smI (cy.Wr z) 8) k) → (ha = smI (fun z => smI (fun y => cy.Wr y z) hs) k) → hs - k < fu → ∀ ls : Array Slot, lv_has ls 10 [(0, .ref x), (1, .ref aw), (2, .int (nI hs)), (3, .ref af), (4, .ref fm), (5, .int (nI ce)), (6, .int su), (7, .int di), (8, .int ha), (9, .int (nI k))] → W p l e (rmk 6 1 8 135) s m ([.ref x, .ref aw, .int (nI hs), .ref af] : List Value).toArray below meth co H locs 1 (0 + hs) (MQ below (QiM (bI true) (fun H1 => CW E x cy Ks H1) (fL E Ks)) ([.ref x, .ref aw, .int (nI hs), .ref af] : List Value).toArray s 1 8 (fL E Ks)) (F0 m 165 ls []) := by
          intro fu
          induction fu with
          | zero => intro k su di ha hk hsu hdi hha hfu; exact absurd hfu (Nat.not_lt_zero _)
          | succ fu ih165 =>
            intro k su di ha hk hsu hdi hha hfu ls hl
            refine lv_iload hx hb dL_areSeen_165 (lv_at hl 9 rfl) ?_
            refine lv_iload_n hx hb dL_areSeen_167 rfl (lv_at hl 2 rfl) ?_
            refine lv_icmpN_ge (tgt := 279) hx hb dL_areSeen_168 (by decide) (by omega) (by omega) (fun c_168 => ?_) (fun c_168 => ?_)
            · skip
              refine lv_iload hx hb dL_areSeen_279 (lv_at hl 7 rfl) ?_
              refine lv_iload hx hb dL_areSeen_281 (lv_at hl 8 rfl) ?_
              refine lv_icmp_ne (tgt := 340) hx hb dL_areSeen_283 (by decide) (fun c_283 => ?_) (fun c_283 => ?_)
              · skip
                exact absurd (by rw [hdi, hha, show k = hs by omega]; exact did_had wf hwh1) c_283
              · skip
                refine lv_aload_n hx hb dL_areSeen_286 rfl (lv_at hl 0 rfl) ?_
                refine lv_bipushN hx hb 6 dL_areSeen_287 (by decide) ?_
                refine la_V (As := [.int (nI 6)]) (rest := []) (v := smI (fun z9 => smI (cy.Wr z9) 8) (cy.R 10 1)) hx hb hml hown hC hS hAb hW (fun ly L ad hX => RoI.cast ma6 (mX3_many_g l hX 6 (show 6 ≤ 11 by first | assumption | omega))) kV_L_29 ⟨rfl, rfl⟩ ⟨Nat.le_of_ble_eq_true rfl, Nat.le_of_ble_eq_true rfl⟩ rfl hl (Nat.le_of_ble_eq_true rfl) ⟨show 1 ≤ (1 : Nat) by omega, show 0 + hs ≤ (8 : Nat) by omega⟩ dL_areSeen_289 ?_
                refine lv_iload hx hb dL_areSeen_292 (lv_at hl 7 rfl) ?_
                refine lv_icmp_ne (tgt := 340) hx hb dL_areSeen_294 (by decide) (fun c_294 => ?_) (fun c_294 => ?_)
                · skip
                  exact absurd (by rw [hdi, show k = hs by omega, hwh]) c_294
                · skip
                  refine lv_aload_n hx hb dL_areSeen_297 rfl (lv_at hl 0 rfl) ?_
                  refine la_VD (As := []) (rest := []) (v := mfS cy) hx hb hml hown hC hS hAb hW (fun ly L ad hX => mX3_meanFame l hX  ) kV_L_115 ⟨rfl, rfl⟩ ⟨Nat.le_of_ble_eq_true rfl, Nat.le_of_ble_eq_true rfl⟩ rfl hl (Nat.le_of_ble_eq_true rfl) ⟨show 1 ≤ (1 : Nat) by omega, show 0 + hs ≤ (8 : Nat) by omega⟩ dL_areSeen_298 ?_
                  refine lv_iload hx hb dL_areSeen_301 (lv_at hl 6 rfl) ?_
                  refine lv_i2d hx hb dL_areSeen_303 ?_
                  refine lv_iload_n hx hb dL_areSeen_304 rfl (lv_at hl 2 rfl) ?_
                  refine lv_i2d hx hb dL_areSeen_305 ?_
                  refine lv_ddiv hx hb dL_areSeen_306 (mean_n _ (by omega) (by omega)) ?_
                  rw [show mfS cy = Jvm.FP.ddiv (Jvm.FP.i2d su) (Jvm.FP.i2d (nI hs)) from by unfold mfS; rw [if_neg (by omega), hwh, hsu, show k = hs by omega]]
                  refine lv_dcmp hx hb dL_areSeen_307 ?_
                  rw [mean_cmp su (by omega) (by omega)]
                  have hp0 := cntN_le (pntB cy 0) (cy.R 1 0)
                  have hp1 := cntN_le (pntB cy 1) (cy.R 1 1)
                  have hp2 := cntN_le (pntB cy 2) (cy.R 1 2)
                  have hd0 := wf.wd (show 0 < cy.R 11 0 by omega)
                  have hd1 := wf.wd (show 1 < cy.R 11 0 by omega)
                  have hd2 := wf.wd (show 2 < cy.R 11 0 by omega)
                  have hceT : ce = cntN (pntB cy 0) (cy.R 1 0) + cntN (pntB cy 1) (cy.R 1 1) + cntN (pntB cy 2) (cy.R 1 2) := by rw [hce, show w = 3 by omega, ceP_e]; rfl
                  refine lv_if_ne (tgt := 340) hx hb dL_areSeen_308 (by decide) (fun c_308 => ?_) (fun c_308 => ?_)
                  · skip
                    exact absurd rfl c_308
                  · skip
                    refine lv_aload_n hx hb dL_areSeen_311 rfl (lv_at hl 0 rfl) ?_
                    refine lv_iconstN hx hb 0 dL_areSeen_312 (by decide) ?_
                    refine lv_iconstN hx hb 4 dL_areSeen_313 (by decide) ?_
                    refine la_V (As := [.int (nI 0), .int (nI 4)]) (rest := []) (v := nI (cntN (pntB cy 0) (cy.R 1 0))) hx hb hml hown hC hS hAb hW (fun ly L ad hX => RoI.cast ow4 (mX3_ofWall_g l hX 0 4 (show 0 < cy.R 10 0 by first | assumption | omega) (show 4 ≤ 6 by first | assumption | omega))) kV_L_42 ⟨rfl, rfl⟩ ⟨Nat.le_of_ble_eq_true rfl, Nat.le_of_ble_eq_true rfl⟩ rfl hl (Nat.le_of_ble_eq_true rfl) ⟨show 1 ≤ (1 : Nat) by omega, show 0 + hs ≤ (8 : Nat) by omega⟩ dL_areSeen_314 ?_
                    refine lv_aload_n hx hb dL_areSeen_317 rfl (lv_at hl 0 rfl) ?_
                    refine lv_iconstN hx hb 1 dL_areSeen_318 (by decide) ?_
                    refine lv_iconstN hx hb 4 dL_areSeen_319 (by decide) ?_
                    refine la_V (As := [.int (nI 1), .int (nI 4)]) (rest := [.int (nI (cntN (pntB cy 0) (cy.R 1 0)))]) (v := nI (cntN (pntB cy 1) (cy.R 1 1))) hx hb hml hown hC hS hAb hW (fun ly L ad hX => RoI.cast ow4 (mX3_ofWall_g l hX 1 4 (show 1 < cy.R 10 0 by first | assumption | omega) (show 4 ≤ 6 by first | assumption | omega))) kV_L_42 ⟨rfl, rfl⟩ ⟨Nat.le_of_ble_eq_true rfl, Nat.le_of_ble_eq_true rfl⟩ rfl hl (Nat.le_of_ble_eq_true rfl) ⟨show 1 ≤ (1 : Nat) by omega, show 0 + hs ≤ (8 : Nat) by omega⟩ dL_areSeen_320 ?_
                    refine lv_iaddN hx hb dL_areSeen_323 ?_
                    refine lv_aload_n hx hb dL_areSeen_324 rfl (lv_at hl 0 rfl) ?_
                    refine lv_iconstN hx hb 2 dL_areSeen_325 (by decide) ?_
                    refine lv_iconstN hx hb 4 dL_areSeen_326 (by decide) ?_
                    refine la_V (As := [.int (nI 2), .int (nI 4)]) (rest := [.int (nI ((cntN (pntB cy 0) (cy.R 1 0)) + (cntN (pntB cy 1) (cy.R 1 1))))]) (v := nI (cntN (pntB cy 2) (cy.R 1 2))) hx hb hml hown hC hS hAb hW (fun ly L ad hX => RoI.cast ow4 (mX3_ofWall_g l hX 2 4 (show 2 < cy.R 10 0 by first | assumption | omega) (show 4 ≤ 6 by first | assumption | omega))) kV_L_42 ⟨rfl, rfl⟩ ⟨Nat.le_of_ble_eq_true rfl, Nat.le_of_ble_eq_true rfl⟩ rfl hl (Nat.le_of_ble_eq_true rfl) ⟨show 1 ≤ (1 : Nat) by omega, show 0 + hs ≤ (8 : Nat) by omega⟩ dL_areSeen_327 ?_
                    refine lv_iaddN hx hb dL_areSeen_330 ?_
                    refine lv_iload hx hb dL_areSeen_331 (lv_at hl 5 rfl) ?_
                    refine lv_icmpN_ne (tgt := 340) hx hb dL_areSeen_333 (by decide) (by omega) (by omega) (fun c_333 => ?_) (fun c_333 => ?_)
                    · skip
                      exact absurd hceT.symm c_333
                    · skip
                      refine lv_iconstN hx hb 1 dL_areSeen_336 (by decide) ?_
                      refine lv_goto (tgt := 341) hx hb dL_areSeen_337 (by decide) ?_
                      refine W.widen (k := 1) (n := 8) (by omega) (by omega) ?_
                      exact mu_zretB (b1 := true) (b2 := true) hx hb hr hlocks hS (hW.less (fun q h => List.mem_cons_of_mem _ h)) (by decide) rfl dL_areSeen_341
            · skip
              obtain ⟨q9, hq1, hq2, hq3⟩ := G.ca (z := k) (by omega)
              have hkc := kn_ca (show q9 ≤ 1000 by omega) hq2 hq3
              refine lv_iload hx hb dL_areSeen_171 (lv_at hl 6 rfl) ?_
              refine lv_aload hx hb dL_areSeen_173 (lv_at hl 4 rfl) ?_
              refine lv_iload hx hb dL_areSeen_175 (lv_at hl 9 rfl) ?_
              refine li_ld hx hb hC hI_fm (j := k) (by first | assumption | omega) (by omega) dL_areSeen_177 ?_
              rw [show ff k = fmS cy k from (hff k (by omega)).trans (by rw [show w = 3 by omega]; exact faP_e hw3)]
              refine lv_iadd hx hb dL_areSeen_178 ?_
              refine lv_istore (lv' := [(6, .int (su + (fmS cy k))), (0, .ref x), (1, .ref aw), (2, .int (nI hs)), (3, .ref af), (4, .ref fm), (5, .int (nI ce)), (7, .int di), (8, .int ha), (9, .int (nI k))]) hx hb dL_areSeen_179 hl (by decide) rfl (fun ls hl => ?_)
              refine lv_iload hx hb dL_areSeen_181 (lv_at hl 7 rfl) ?_
              refine lv_aload_n hx hb dL_areSeen_183 rfl (lv_at hl 1 rfl) ?_
              refine lv_iload hx hb dL_areSeen_184 (lv_at hl 9 rfl) ?_
              refine lv_bipushN hx hb 7 dL_areSeen_186 (by decide) ?_
              refine la_V (As := [.int (nI k), .int (nI 7)]) (rest := [.int di]) (v := smI (cy.Wr k) 8) hx hb hml hown hC hS hAb hW (fun ly L ad hX => RoI.cast oh7 (mX3_ofHand_g l hX k 7 (show k < cy.R 10 1 by first | assumption | omega) (show 7 ≤ 10 by first | assumption | omega))) kV_L_68 ⟨rfl, rfl⟩ ⟨Nat.le_of_ble_eq_true rfl, Nat.le_of_ble_eq_true rfl⟩ rfl hl (Nat.le_of_ble_eq_true rfl) ⟨show 1 ≤ (1 : Nat) by omega, show 0 + hs ≤ (8 : Nat) by omega⟩ dL_areSeen_188 ?_
              refine lv_iadd hx hb dL_areSeen_191 ?_
              refine lv_istore (lv' := [(7, .int (di + (smI (cy.Wr k) 8))), (6, .int (su + (fmS cy k))), (0, .ref x), (1, .ref aw), (2, .int (nI hs)), (3, .ref af), (4, .ref fm), (5, .int (nI ce)), (8, .int ha), (9, .int (nI k))]) hx hb dL_areSeen_192 hl (by decide) rfl (fun ls hl => ?_)
              refine lv_iload hx hb dL_areSeen_194 (lv_at hl 8 rfl) ?_
              refine lv_aload_n hx hb dL_areSeen_196 rfl (lv_at hl 2 rfl) ?_
              refine lv_iload hx hb dL_areSeen_197 (lv_at hl 9 rfl) ?_
              refine lv_bipushN hx hb 8 dL_areSeen_199 (by decide) ?_
              refine la_V (As := [.int (nI k), .int (nI 8)]) (rest := [.int ha]) (v := smI (fun y => cy.Wr y k) hs) hx hb hml hown hC hS hAb hW (fun ly L ad hX => RoI.cast (oh8.trans (by rw [hwh])) (mX3_ofHand_g l hX k 8 (show k < cy.R 10 1 by first | assumption | omega) (show 8 ≤ 10 by first | assumption | omega))) kV_L_68 ⟨rfl, rfl⟩ ⟨Nat.le_of_ble_eq_true rfl, Nat.le_of_ble_eq_true rfl⟩ rfl hl (Nat.le_of_ble_eq_true rfl) ⟨show 1 ≤ (1 : Nat) by omega, show 0 + hs ≤ (8 : Nat) by omega⟩ dL_areSeen_201 ?_
              refine lv_iadd hx hb dL_areSeen_204 ?_
              refine lv_istore (lv' := [(8, .int (ha + (smI (fun y => cy.Wr y k) hs))), (7, .int (di + (smI (cy.Wr k) 8))), (6, .int (su + (fmS cy k))), (0, .ref x), (1, .ref aw), (2, .int (nI hs)), (3, .ref af), (4, .ref fm), (5, .int (nI ce)), (9, .int (nI k))]) hx hb dL_areSeen_205 hl (by decide) rfl (fun ls hl => ?_)
              refine lv_aload_n hx hb dL_areSeen_207 rfl (lv_at hl 3 rfl) ?_
              refine lv_iload hx hb dL_areSeen_208 (lv_at hl 9 rfl) ?_
              refine lv_iconstN hx hb 4 dL_areSeen_210 (by decide) ?_
              refine la_V (As := [.int (nI k), .int (nI 4)]) (rest := []) (v := fmS cy k) hx hb hml hown hC hS hAb hW (fun ly L ad hX => RoI.cast oh4 (mX3_ofHand_g l hX k 4 (show k < cy.R 10 1 by first | assumption | omega) (show 4 ≤ 10 by first | assumption | omega))) kV_L_68 ⟨rfl, rfl⟩ ⟨Nat.le_of_ble_eq_true rfl, Nat.le_of_ble_eq_true rfl⟩ rfl hl (Nat.le_of_ble_eq_true rfl) ⟨show 1 ≤ (1 : Nat) by omega, show 0 + hs ≤ (8 : Nat) by omega⟩ dL_areSeen_211 ?_
              refine lv_aload hx hb dL_areSeen_214 (lv_at hl 7 rfl) ?_
              refine lv_iload hx hb dL_areSeen_216 (lv_at hl 9 rfl) ?_
              refine li_ld hx hb hC hI_fm (j := k) (by first | assumption | omega) (by omega) dL_areSeen_218 ?_
              rw [show ff k = fmS cy k from (hff k (by omega)).trans (by rw [show w = 3 by omega]; exact faP_e hw3)]
              refine lv_icmp_ne (tgt := 271) hx hb dL_areSeen_219 (by decide) (fun c_219 => ?_) (fun c_219 => ?_)
              · skip
                exact absurd rfl c_219
              · skip
                refine lv_aload_n hx hb dL_areSeen_222 rfl (lv_at hl 3 rfl) ?_
                refine lv_iload hx hb dL_areSeen_223 (lv_at hl 9 rfl) ?_
                refine lv_iconstN hx hb 2 dL_areSeen_225 (by decide) ?_
                refine la_V (As := [.int (nI k), .int (nI 2)]) (rest := []) (v := cy.I 11 k) hx hb hml hown hC hS hAb hW (fun ly L ad hX => RoI.cast oh2 (mX3_ofHand_g l hX k 2 (show k < cy.R 10 1 by first | assumption | omega) (show 2 ≤ 10 by first | assumption | omega))) kV_L_68 ⟨rfl, rfl⟩ ⟨Nat.le_of_ble_eq_true rfl, Nat.le_of_ble_eq_true rfl⟩ rfl hl (Nat.le_of_ble_eq_true rfl) ⟨show 1 ≤ (1 : Nat) by omega, show 0 + hs ≤ (8 : Nat) by omega⟩ dL_areSeen_226 ?_
                refine lv_aload_n hx hb dL_areSeen_229 rfl (lv_at hl 6 rfl) ?_
                refine lv_iload hx hb dL_areSeen_230 (lv_at hl 9 rfl) ?_
                refine li_ld hx hb hC hI_af (j := k) (by first | assumption | omega) (by omega) dL_areSeen_232 ?_
                rw [show F k = cy.I 11 k from (G.fi (by omega)).symm]
                refine lv_icmp_ne (tgt := 271) hx hb dL_areSeen_233 (by decide) (fun c_233 => ?_) (fun c_233 => ?_)
                · skip
                  exact absurd rfl c_233
                · skip
                  refine lv_aload_n hx hb dL_areSeen_236 rfl (lv_at hl 3 rfl) ?_
                  refine lv_iload hx hb dL_areSeen_237 (lv_at hl 9 rfl) ?_
                  refine lv_iconstN hx hb 3 dL_areSeen_239 (by decide) ?_
                  refine la_V (As := [.int (nI k), .int (nI 3)]) (rest := []) (v := bI (cy.B 0 k)) hx hb hml hown hC hS hAb hW (fun ly L ad hX => RoI.cast oh3 (mX3_ofHand_g l hX k 3 (show k < cy.R 10 1 by first | assumption | omega) (show 3 ≤ 10 by first | assumption | omega))) kV_L_68 ⟨rfl, rfl⟩ ⟨Nat.le_of_ble_eq_true rfl, Nat.le_of_ble_eq_true rfl⟩ rfl hl (Nat.le_of_ble_eq_true rfl) ⟨show 1 ≤ (1 : Nat) by omega, show 0 + hs ≤ (8 : Nat) by omega⟩ dL_areSeen_240 ?_
                  refine lv_iconstN hx hb 1 dL_areSeen_243 (by decide) ?_
                  refine lv_icmp_ne (tgt := 251) hx hb dL_areSeen_244 (by decide) (fun c_244 => ?_) (fun c_244 => ?_)
                  · skip
                    refine lv_iconstN hx hb 0 dL_areSeen_251 (by decide) ?_
                    refine lv_aload_n hx hb dL_areSeen_252 rfl (lv_at hl 3 rfl) ?_
                    refine lv_iload hx hb dL_areSeen_253 (lv_at hl 9 rfl) ?_
                    refine lv_bipushN hx hb 10 dL_areSeen_255 (by decide) ?_
                    refine la_V (As := [.int (nI k), .int (nI 10)]) (rest := [.int (nI 0)]) (v := cy.I 13 k) hx hb hml hown hC hS hAb hW (fun ly L ad hX => RoI.cast oh10 (mX3_ofHand_g l hX k 10 (show k < cy.R 10 1 by first | assumption | omega) (show 10 ≤ 10 by first | assumption | omega))) kV_L_68 ⟨rfl, rfl⟩ ⟨Nat.le_of_ble_eq_true rfl, Nat.le_of_ble_eq_true rfl⟩ rfl hl (Nat.le_of_ble_eq_true rfl) ⟨show 1 ≤ (1 : Nat) by omega, show 0 + hs ≤ (8 : Nat) by omega⟩ dL_areSeen_257 ?_
                    refine lv_if_le (tgt := 267) hx hb dL_areSeen_260 (by decide) (fun c_260 => ?_) (fun c_260 => ?_)
                    · skip
                      have c_260 := Int32.not_lt.mpr c_260
                      refine lv_iconstN hx hb 0 dL_areSeen_267 (by decide) ?_
                      refine lv_icmpN_eq (tgt := 273) hx hb dL_areSeen_268 (by decide) (by omega) (by omega) (fun c_268 => ?_) (fun c_268 => ?_)
                      · skip
                        refine lv_iincN (v := 1) (lv' := [(9, .int (nI (k + 1))), (8, .int (ha + (smI (fun y => cy.Wr y k) hs))), (7, .int (di + (smI (cy.Wr k) 8))), (6, .int (su + (fmS cy k))), (0, .ref x), (1, .ref aw), (2, .int (nI hs)), (3, .ref af), (4, .ref fm), (5, .int (nI ce))]) hx hb dL_areSeen_273 hl (k := 9) rfl (by decide) (by decide) rfl (fun ls hl => ?_)
                        refine lv_goto (tgt := 165) hx hb dL_areSeen_276 (by decide) ?_
                        exact ih165 (k + 1) (su + (fmS cy k)) (di + (smI (cy.Wr k) 8)) (ha + (smI (fun y => cy.Wr y k) hs)) (by omega) (by rw [hsu]; rfl) (by rw [hdi]; rfl) (by rw [hha]; rfl) (by omega) _ (lv_sub hl [4, 5, 6, 7, 8, 9, 3, 2, 1, 0] rfl)
                      · skip
                        exact absurd rfl c_268
                    · skip
                      have c_260 := Int32.not_le.mp c_260
                      exact absurd (hkc.mpr c_260) c_244
                  · skip
                    refine lv_iconstN hx hb 1 dL_areSeen_247 (by decide) ?_
                    refine lv_goto (tgt := 252) hx hb dL_areSeen_248 (by decide) ?_
                    refine lv_aload_n hx hb dL_areSeen_252 rfl (lv_at hl 3 rfl) ?_
                    refine lv_iload hx hb dL_areSeen_253 (lv_at hl 9 rfl) ?_
                    refine lv_bipushN hx hb 10 dL_areSeen_255 (by decide) ?_
                    refine la_V (As := [.int (nI k), .int (nI 10)]) (rest := [.int (nI 1)]) (v := cy.I 13 k) hx hb hml hown hC hS hAb hW (fun ly L ad hX => RoI.cast oh10 (mX3_ofHand_g l hX k 10 (show k < cy.R 10 1 by first | assumption | omega) (show 10 ≤ 10 by first | assumption | omega))) kV_L_68 ⟨rfl, rfl⟩ ⟨Nat.le_of_ble_eq_true rfl, Nat.le_of_ble_eq_true rfl⟩ rfl hl (Nat.le_of_ble_eq_true rfl) ⟨show 1 ≤ (1 : Nat) by omega, show 0 + hs ≤ (8 : Nat) by omega⟩ dL_areSeen_257 ?_
                    refine lv_if_le (tgt := 267) hx hb dL_areSeen_260 (by decide) (fun c_260 => ?_) (fun c_260 => ?_)
                    · skip
                      have c_260 := Int32.not_lt.mpr c_260
                      exact absurd (hkc.mp c_244) c_260
                    · skip
                      have c_260 := Int32.not_le.mp c_260
                      refine lv_iconstN hx hb 1 dL_areSeen_263 (by decide) ?_
                      refine lv_goto (tgt := 268) hx hb dL_areSeen_264 (by decide) ?_
                      refine lv_icmpN_eq (tgt := 273) hx hb dL_areSeen_268 (by decide) (by omega) (by omega) (fun c_268 => ?_) (fun c_268 => ?_)
                      · skip
                        refine lv_iincN (v := 1) (lv' := [(9, .int (nI (k + 1))), (8, .int (ha + (smI (fun y => cy.Wr y k) hs))), (7, .int (di + (smI (cy.Wr k) 8))), (6, .int (su + (fmS cy k))), (0, .ref x), (1, .ref aw), (2, .int (nI hs)), (3, .ref af), (4, .ref fm), (5, .int (nI ce))]) hx hb dL_areSeen_273 hl (k := 9) rfl (by decide) (by decide) rfl (fun ls hl => ?_)
                        refine lv_goto (tgt := 165) hx hb dL_areSeen_276 (by decide) ?_
                        exact ih165 (k + 1) (su + (fmS cy k)) (di + (smI (cy.Wr k) 8)) (ha + (smI (fun y => cy.Wr y k) hs)) (by omega) (by rw [hsu]; rfl) (by rw [hdi]; rfl) (by rw [hha]; rfl) (by omega) _ (lv_sub hl [4, 5, 6, 7, 8, 9, 3, 2, 1, 0] rfl)
                      · skip
                        exact absurd rfl c_268
        exact lp165 (hs - 0 + 1) 0 (nI 0) (nI 0) (nI 0) (Nat.zero_le _) (rfl) (rfl) (rfl) (Nat.lt_succ_self _) _ (lv_sub hl [4, 5, 6, 7, 8, 9, 3, 2, 1, 0] rfl)
      · skip
        refine lv_iconstN hx hb 0 dL_areSeen_17 (by decide) ?_
        refine lv_istore (lv' := [(7, .int (nI 0)), (0, .ref x), (1, .ref aw), (2, .int (nI hs)), (3, .ref af), (4, .ref fm), (5, .int (nI ce)), (6, .int (nI w))]) hx hb dL_areSeen_18 hl (by decide) rfl (fun ls hl => ?_)
        have lp20 : ∀ fu : Nat, ∀ (k ce : Nat) (ff : Nat → Int32), (k ≤ cy.R 1 w) → (ce = ceP cy w k) → (∀ z, z < hs → ff z = faP cy z w k) → cy.R 1 w - k < fu → ∀ (H : Heap) (locs : List Loc), CW E x cy (fm :: Ks) H → va_S (fL E Ks) s.heap H locs → iA E aw 3 g H → iA E af hs F H → iA E fm hs ff H → ∀ ls : Array Slot, lv_has ls 10 [(0, .ref x), (1, .ref aw), (2, .int (nI hs)), (3, .ref af), (4, .ref fm), (5, .int (nI ce)), (6, .int (nI w)), (7, .int (nI k))] → W p l e (rmk 6 1 8 135) s m ([.ref x, .ref aw, .int (nI hs), .ref af] : List Value).toArray below meth co H locs 1 (0 + hs) (MQ below (QiM (bI true) (fun H1 => CW E x cy Ks H1) (fL E Ks)) ([.ref x, .ref aw, .int (nI hs), .ref af] : List Value).toArray s 1 8 (fL E Ks)) (F0 m 20 ls []) := by
          intro fu
          induction fu with
          | zero => intro k ce ff hk hce hff hfu; exact absurd hfu (Nat.not_lt_zero _)
          | succ fu ih20 =>
            intro k ce ff hk hce hff hfu H locs hW hS hI_aw hI_af hI_fm ls hl
            have hwd := wf.wd (show w < cy.R 11 0 by omega)
            refine lv_iload hx hb dL_areSeen_20 (lv_at hl 7 rfl) ?_
            refine lv_aload_n hx hb dL_areSeen_22 rfl (lv_at hl 1 rfl) ?_
            refine lv_iload hx hb dL_areSeen_23 (lv_at hl 6 rfl) ?_
            refine li_ld hx hb hC hI_aw (j := w) (by first | assumption | omega) (by omega) dL_areSeen_25 ?_
            rw [show g w = nI (cy.R 1 w) from G.wi (by omega)]
            refine lv_icmpN_ge (tgt := 147) hx hb dL_areSeen_26 (by decide) (by omega) (by omega) (fun c_26 => ?_) (fun c_26 => ?_)
            · skip
              refine lv_iincN (v := 1) (lv' := [(6, .int (nI (w + 1))), (0, .ref x), (1, .ref aw), (2, .int (nI hs)), (3, .ref af), (4, .ref fm), (5, .int (nI ce)), (7, .int (nI k))]) hx hb dL_areSeen_147 hl (k := 6) rfl (by decide) (by decide) rfl (fun ls hl => ?_)
              refine lv_goto (tgt := 11) hx hb dL_areSeen_150 (by decide) ?_
              exact ih11 (w + 1) ce ff (by omega) (by rw [hce, show k = cy.R 1 w by omega]; rfl) (fm_w hff (by omega)) (by omega) _ _ hW hS hI_aw hI_af hI_fm _ (lv_sub hl [1, 2, 3, 4, 5, 6, 0] rfl)
            · skip
              rcases hd : cy.sh w k with _ | j
              · skip
                refine lv_aload_n hx hb dL_areSeen_29 rfl (lv_at hl 0 rfl) ?_
                refine lv_iload hx hb dL_areSeen_30 (lv_at hl 6 rfl) ?_
                refine lv_iload hx hb dL_areSeen_32 (lv_at hl 7 rfl) ?_
                refine la_V (As := [.int (nI w), .int (nI k)]) (rest := []) (v := (-1)) hx hb hml hown hC hS hAb hW (fun ly L ad hX => RoI.cast (shI_n hd) (mX3_shows_g l hX w k (show w < cy.R 10 0 by first | assumption | omega) (show k < cy.R 1 w by first | assumption | omega))) kV_L_100 ⟨rfl, rfl⟩ ⟨Nat.le_of_ble_eq_true rfl, Nat.le_of_ble_eq_true rfl⟩ rfl hl (Nat.le_of_ble_eq_true rfl) ⟨show 1 ≤ (1 : Nat) by omega, show 0 + hs ≤ (8 : Nat) by omega⟩ dL_areSeen_34 ?_
                refine lv_istore (lv' := [(8, .int (-1)), (0, .ref x), (1, .ref aw), (2, .int (nI hs)), (3, .ref af), (4, .ref fm), (5, .int (nI ce)), (6, .int (nI w)), (7, .int (nI k))]) hx hb dL_areSeen_37 hl (by decide) rfl (fun ls hl => ?_)
                refine lv_iload hx hb dL_areSeen_39 (lv_at hl 0 rfl) ?_
                refine lv_if_ge (tgt := 47) hx hb dL_areSeen_41 (by decide) (fun c_41 => ?_) (fun c_41 => ?_)
                · skip
                  have c_41 := Int32.not_lt.mpr c_41
                  exact absurd (by decide) c_41
                · skip
                  have c_41 := Int32.not_le.mp c_41
                  refine lv_goto (tgt := 141) hx hb dL_areSeen_44 (by decide) ?_
                  refine lv_iincN (v := 1) (lv' := [(7, .int (nI (k + 1))), (8, .int (-1)), (0, .ref x), (1, .ref aw), (2, .int (nI hs)), (3, .ref af), (4, .ref fm), (5, .int (nI ce)), (6, .int (nI w))]) hx hb dL_areSeen_141 hl (k := 8) rfl (by decide) (by decide) rfl (fun ls hl => ?_)
                  refine lv_goto (tgt := 20) hx hb dL_areSeen_144 (by decide) ?_
                  exact ih20 (k + 1) ce ff (by omega) (by rw [ceP_n hd]; exact hce) (fm_no hff hd) (by omega) _ _ hW hS hI_aw hI_af hI_fm _ (lv_sub hl [2, 3, 4, 5, 6, 7, 8, 0] rfl)
              · skip
                have hj : j < cy.R 10 2 := by rw [G.nl]; exact wf.sj (show w < cy.R 11 0 by omega) (show k < cy.R 1 w by omega) hd
                have hj1 : j < cy.R 11 2 := by omega
                have hoj : cy.R 5 j < hs := by have := wf.lh hj1; omega
                have hlk := wf.lk hj1
                have hse := G.se (i := w) (k := k) (by omega) (by omega) hd
                have hlf := wf.lf hj1
                have hld := wf.wd (wf.lw hj1)
                refine lv_aload_n hx hb dL_areSeen_29 rfl (lv_at hl 0 rfl) ?_
                refine lv_iload hx hb dL_areSeen_30 (lv_at hl 6 rfl) ?_
                refine lv_iload hx hb dL_areSeen_32 (lv_at hl 7 rfl) ?_
                refine la_V (As := [.int (nI w), .int (nI k)]) (rest := []) (v := nI j) hx hb hml hown hC hS hAb hW (fun ly L ad hX => RoI.cast (shI_s hd) (mX3_shows_g l hX w k (show w < cy.R 10 0 by first | assumption | omega) (show k < cy.R 1 w by first | assumption | omega))) kV_L_100 ⟨rfl, rfl⟩ ⟨Nat.le_of_ble_eq_true rfl, Nat.le_of_ble_eq_true rfl⟩ rfl hl (Nat.le_of_ble_eq_true rfl) ⟨show 1 ≤ (1 : Nat) by omega, show 0 + hs ≤ (8 : Nat) by omega⟩ dL_areSeen_34 ?_
                refine lv_istore (lv' := [(8, .int (nI j)), (0, .ref x), (1, .ref aw), (2, .int (nI hs)), (3, .ref af), (4, .ref fm), (5, .int (nI ce)), (6, .int (nI w)), (7, .int (nI k))]) hx hb dL_areSeen_37 hl (by decide) rfl (fun ls hl => ?_)
                refine lv_iload hx hb dL_areSeen_39 (lv_at hl 0 rfl) ?_
                refine lv_if_ge (tgt := 47) hx hb dL_areSeen_41 (by decide) (fun c_41 => ?_) (fun c_41 => ?_)
                · skip
                  have c_41 := Int32.not_lt.mpr c_41
                  refine lv_iincN (v := 1) (lv' := [(5, .int (nI (ce + 1))), (8, .int (nI j)), (0, .ref x), (1, .ref aw), (2, .int (nI hs)), (3, .ref af), (4, .ref fm), (6, .int (nI w)), (7, .int (nI k))]) hx hb dL_areSeen_47 hl (k := 6) rfl (by decide) (by decide) rfl (fun ls hl => ?_)
                  refine lv_aload_n hx hb dL_areSeen_50 rfl (lv_at hl 2 rfl) ?_
                  refine lv_iload hx hb dL_areSeen_51 (lv_at hl 1 rfl) ?_
                  refine lv_iconstN hx hb 4 dL_areSeen_53 (by decide) ?_
                  refine la_V (As := [.int (nI j), .int (nI 4)]) (rest := []) (v := nI (cy.R 9 j)) hx hb hml hown hC hS hAb hW (fun ly L ad hX => RoI.cast ol4 (mX3_ofLayer_g l hX j 4 (show j < cy.R 10 2 by first | assumption | omega) (show 4 ≤ 13 by first | assumption | omega))) kV_L_55 ⟨rfl, rfl⟩ ⟨Nat.le_of_ble_eq_true rfl, Nat.le_of_ble_eq_true rfl⟩ rfl hl (Nat.le_of_ble_eq_true rfl) ⟨show 1 ≤ (1 : Nat) by omega, show 0 + hs ≤ (8 : Nat) by omega⟩ dL_areSeen_54 ?_
                  refine lv_istore (lv' := [(9, .int (nI (cy.R 9 j))), (5, .int (nI (ce + 1))), (8, .int (nI j)), (0, .ref x), (1, .ref aw), (2, .int (nI hs)), (3, .ref af), (4, .ref fm), (6, .int (nI w)), (7, .int (nI k))]) hx hb dL_areSeen_57 hl (by decide) rfl (fun ls hl => ?_)
                  refine lv_aload hx hb dL_areSeen_59 (lv_at hl 7 rfl) ?_
                  refine lv_aload_n hx hb dL_areSeen_61 rfl (lv_at hl 3 rfl) ?_
                  refine lv_iload hx hb dL_areSeen_62 (lv_at hl 2 rfl) ?_
                  refine lv_iconstN hx hb 0 dL_areSeen_64 (by decide) ?_
                  refine la_V (As := [.int (nI j), .int (nI 0)]) (rest := [.ref fm]) (v := nI (cy.R 5 j)) hx hb hml hown hC hS hAb hW (fun ly L ad hX => RoI.cast ol0 (mX3_ofLayer_g l hX j 0 (show j < cy.R 10 2 by first | assumption | omega) (show 0 ≤ 13 by first | assumption | omega))) kV_L_55 ⟨rfl, rfl⟩ ⟨Nat.le_of_ble_eq_true rfl, Nat.le_of_ble_eq_true rfl⟩ rfl hl (Nat.le_of_ble_eq_true rfl) ⟨show 1 ≤ (1 : Nat) by omega, show 0 + hs ≤ (8 : Nat) by omega⟩ dL_areSeen_65 ?_
                  refine lv_dup2_11 hx hb dL_areSeen_68 rfl rfl ?_
                  refine li_ld hx hb hC hI_fm (j := (cy.R 5 j)) (by first | assumption | omega) (by omega) dL_areSeen_69 ?_
                  refine lv_aload_n hx hb dL_areSeen_70 rfl (lv_at hl 3 rfl) ?_
                  refine lv_iload hx hb dL_areSeen_71 (lv_at hl 8 rfl) ?_
                  refine lv_iconstN hx hb 1 dL_areSeen_73 (by decide) ?_
                  refine la_V (As := [.int (nI w), .int (nI 1)]) (rest := [.int (ff (cy.R 5 j)), .int (nI (cy.R 5 j)), .ref fm]) (v := cy.I 2 w) hx hb hml hown hC hS hAb hW (fun ly L ad hX => RoI.cast ow1 (mX3_ofWall_g l hX w 1 (show w < cy.R 10 0 by first | assumption | omega) (show 1 ≤ 6 by first | assumption | omega))) kV_L_42 ⟨rfl, rfl⟩ ⟨Nat.le_of_ble_eq_true rfl, Nat.le_of_ble_eq_true rfl⟩ rfl hl (Nat.le_of_ble_eq_true rfl) ⟨show 1 ≤ (1 : Nat) by omega, show 0 + hs ≤ (8 : Nat) by omega⟩ dL_areSeen_74 ?_
                  refine lv_iload hx hb dL_areSeen_77 (lv_at hl 0 rfl) ?_
                  refine lv_iconstN hx hb 3 dL_areSeen_79 (by decide) ?_
                  refine lv_icmpN_ne (tgt := 88) hx hb dL_areSeen_80 (by decide) (by omega) (by omega) (fun c_80 => ?_) (fun c_80 => ?_)
                  · skip
                    refine lv_iconstN hx hb 1 dL_areSeen_88 (by decide) ?_
                    refine lv_iload hx hb dL_areSeen_89 (lv_at hl 0 rfl) ?_
                    refine lv_ishl hx hb dL_areSeen_91 ?_
                    rw [show (nI 1) <<< (nI (cy.R 9 j) &&& 31) = wtf (cy.R 9 j) from wt_s hlk c_80]
                    refine lv_imul hx hb dL_areSeen_92 ?_
                    refine lv_iadd hx hb dL_areSeen_93 ?_
                    refine li_st (v := (ff (cy.R 5 j)) + ((cy.I 2 w) * (wtf (cy.R 9 j)))) hx hb hC hI_fm hW hS hA_fm (by simp) (j := (cy.R 5 j)) (by first | assumption | omega) (by omega) dL_areSeen_94 (fun H locs hI_fm hW hS hz hk => ?_)
                    have hI_aw := hI_aw.kept (hk aw hne_aw_fm)
                    have hI_af := hI_af.kept (hk af hne_af_fm)
                    refine lv_aload_n hx hb dL_areSeen_95 rfl (lv_at hl 3 rfl) ?_
                    refine lv_iload hx hb dL_areSeen_96 (lv_at hl 2 rfl) ?_
                    refine lv_iconstN hx hb 1 dL_areSeen_98 (by decide) ?_
                    refine la_V (As := [.int (nI j), .int (nI 1)]) (rest := []) (v := nI (cy.R 6 j)) hx hb hml hown hC hS hAb hW (fun ly L ad hX => RoI.cast ol1 (mX3_ofLayer_g l hX j 1 (show j < cy.R 10 2 by first | assumption | omega) (show 1 ≤ 13 by first | assumption | omega))) kV_L_55 ⟨rfl, rfl⟩ ⟨Nat.le_of_ble_eq_true rfl, Nat.le_of_ble_eq_true rfl⟩ rfl hl (Nat.le_of_ble_eq_true rfl) ⟨show 1 ≤ (1 : Nat) by omega, show 0 + hs ≤ (8 : Nat) by omega⟩ dL_areSeen_99 ?_
                    refine lv_iload hx hb dL_areSeen_102 (lv_at hl 8 rfl) ?_
                    refine lv_icmpN_ne (tgt := 139) hx hb dL_areSeen_104 (by decide) (by omega) (by omega) (fun c_104 => ?_) (fun c_104 => ?_)
                    · skip
                      exact absurd hse.1 c_104
                    · skip
                      refine lv_iload hx hb dL_areSeen_107 (lv_at hl 9 rfl) ?_
                      refine lv_aload_n hx hb dL_areSeen_109 rfl (lv_at hl 3 rfl) ?_
                      refine lv_iload hx hb dL_areSeen_110 (lv_at hl 2 rfl) ?_
                      refine lv_iconstN hx hb 2 dL_areSeen_112 (by decide) ?_
                      refine la_V (As := [.int (nI j), .int (nI 2)]) (rest := [.int (nI k)]) (v := nI (cy.R 7 j)) hx hb hml hown hC hS hAb hW (fun ly L ad hX => RoI.cast ol2 (mX3_ofLayer_g l hX j 2 (show j < cy.R 10 2 by first | assumption | omega) (show 2 ≤ 13 by first | assumption | omega))) kV_L_55 ⟨rfl, rfl⟩ ⟨Nat.le_of_ble_eq_true rfl, Nat.le_of_ble_eq_true rfl⟩ rfl hl (Nat.le_of_ble_eq_true rfl) ⟨show 1 ≤ (1 : Nat) by omega, show 0 + hs ≤ (8 : Nat) by omega⟩ dL_areSeen_113 ?_
                      refine lv_icmpN_lt (tgt := 139) hx hb dL_areSeen_116 (by decide) (by omega) (by omega) (fun c_116 => ?_) (fun c_116 => ?_)
                      · skip
                        omega
                      · skip
                        refine lv_iload hx hb dL_areSeen_119 (lv_at hl 9 rfl) ?_
                        refine lv_aload_n hx hb dL_areSeen_121 rfl (lv_at hl 3 rfl) ?_
                        refine lv_iload hx hb dL_areSeen_122 (lv_at hl 2 rfl) ?_
                        refine lv_iconstN hx hb 2 dL_areSeen_124 (by decide) ?_
                        refine la_V (As := [.int (nI j), .int (nI 2)]) (rest := [.int (nI k)]) (v := nI (cy.R 7 j)) hx hb hml hown hC hS hAb hW (fun ly L ad hX => RoI.cast ol2 (mX3_ofLayer_g l hX j 2 (show j < cy.R 10 2 by first | assumption | omega) (show 2 ≤ 13 by first | assumption | omega))) kV_L_55 ⟨rfl, rfl⟩ ⟨Nat.le_of_ble_eq_true rfl, Nat.le_of_ble_eq_true rfl⟩ rfl hl (Nat.le_of_ble_eq_true rfl) ⟨show 1 ≤ (1 : Nat) by omega, show 0 + hs ≤ (8 : Nat) by omega⟩ dL_areSeen_125 ?_
                        refine lv_aload_n hx hb dL_areSeen_128 rfl (lv_at hl 3 rfl) ?_
                        refine lv_iload hx hb dL_areSeen_129 (lv_at hl 2 rfl) ?_
                        refine lv_iconstN hx hb 3 dL_areSeen_131 (by decide) ?_
                        refine la_V (As := [.int (nI j), .int (nI 3)]) (rest := [.int (nI (cy.R 7 j)), .int (nI k)]) (v := nI (cy.R 8 j)) hx hb hml hown hC hS hAb hW (fun ly L ad hX => RoI.cast ol3 (mX3_ofLayer_g l hX j 3 (show j < cy.R 10 2 by first | assumption | omega) (show 3 ≤ 13 by first | assumption | omega))) kV_L_55 ⟨rfl, rfl⟩ ⟨Nat.le_of_ble_eq_true rfl, Nat.le_of_ble_eq_true rfl⟩ rfl hl (Nat.le_of_ble_eq_true rfl) ⟨show 1 ≤ (1 : Nat) by omega, show 0 + hs ≤ (8 : Nat) by omega⟩ dL_areSeen_132 ?_
                        refine lv_iaddN hx hb dL_areSeen_135 ?_
                        refine lv_icmpN_lt (tgt := 141) hx hb dL_areSeen_136 (by decide) (by omega) (by omega) (fun c_136 => ?_) (fun c_136 => ?_)
                        · skip
                          refine lv_iincN (v := 1) (lv' := [(7, .int (nI (k + 1))), (9, .int (nI (cy.R 9 j))), (5, .int (nI (ce + 1))), (8, .int (nI j)), (0, .ref x), (1, .ref aw), (2, .int (nI hs)), (3, .ref af), (4, .ref fm), (6, .int (nI w))]) hx hb dL_areSeen_141 hl (k := 9) rfl (by decide) (by decide) rfl (fun ls hl => ?_)
                          refine lv_goto (tgt := 20) hx hb dL_areSeen_144 (by decide) ?_
                          exact ih20 (k + 1) (ce + 1) (upd ff (cy.R 5 j) ((ff (cy.R 5 j)) + ((cy.I 2 w) * (wtf (cy.R 9 j))))) (by omega) (by rw [ceP_s hd, hce]) (fm_st hff hd hoj) (by omega) _ _ hW hS hI_aw hI_af hI_fm _ (lv_sub hl [4, 5, 6, 7, 8, 2, 9, 0] rfl)
                        · skip
                          omega
                  · skip
                    refine lv_bipushN hx hb 7 dL_areSeen_83 (by decide) ?_
                    refine lv_goto (tgt := 92) hx hb dL_areSeen_85 (by decide) ?_
                    rw [show nI 7 = wtf (cy.R 9 j) from wt_3 c_80]
                    refine lv_imul hx hb dL_areSeen_92 ?_
                    refine lv_iadd hx hb dL_areSeen_93 ?_
                    refine li_st (v := (ff (cy.R 5 j)) + ((cy.I 2 w) * (wtf (cy.R 9 j)))) hx hb hC hI_fm hW hS hA_fm (by simp) (j := (cy.R 5 j)) (by first | assumption | omega) (by omega) dL_areSeen_94 (fun H locs hI_fm hW hS hz hk => ?_)
                    have hI_aw := hI_aw.kept (hk aw hne_aw_fm)
                    have hI_af := hI_af.kept (hk af hne_af_fm)
                    refine lv_aload_n hx hb dL_areSeen_95 rfl (lv_at hl 3 rfl) ?_
                    refine lv_iload hx hb dL_areSeen_96 (lv_at hl 2 rfl) ?_
                    refine lv_iconstN hx hb 1 dL_areSeen_98 (by decide) ?_
                    refine la_V (As := [.int (nI j), .int (nI 1)]) (rest := []) (v := nI (cy.R 6 j)) hx hb hml hown hC hS hAb hW (fun ly L ad hX => RoI.cast ol1 (mX3_ofLayer_g l hX j 1 (show j < cy.R 10 2 by first | assumption | omega) (show 1 ≤ 13 by first | assumption | omega))) kV_L_55 ⟨rfl, rfl⟩ ⟨Nat.le_of_ble_eq_true rfl, Nat.le_of_ble_eq_true rfl⟩ rfl hl (Nat.le_of_ble_eq_true rfl) ⟨show 1 ≤ (1 : Nat) by omega, show 0 + hs ≤ (8 : Nat) by omega⟩ dL_areSeen_99 ?_
                    refine lv_iload hx hb dL_areSeen_102 (lv_at hl 8 rfl) ?_
                    refine lv_icmpN_ne (tgt := 139) hx hb dL_areSeen_104 (by decide) (by omega) (by omega) (fun c_104 => ?_) (fun c_104 => ?_)
                    · skip
                      exact absurd hse.1 c_104
                    · skip
                      refine lv_iload hx hb dL_areSeen_107 (lv_at hl 9 rfl) ?_
                      refine lv_aload_n hx hb dL_areSeen_109 rfl (lv_at hl 3 rfl) ?_
                      refine lv_iload hx hb dL_areSeen_110 (lv_at hl 2 rfl) ?_
                      refine lv_iconstN hx hb 2 dL_areSeen_112 (by decide) ?_
                      refine la_V (As := [.int (nI j), .int (nI 2)]) (rest := [.int (nI k)]) (v := nI (cy.R 7 j)) hx hb hml hown hC hS hAb hW (fun ly L ad hX => RoI.cast ol2 (mX3_ofLayer_g l hX j 2 (show j < cy.R 10 2 by first | assumption | omega) (show 2 ≤ 13 by first | assumption | omega))) kV_L_55 ⟨rfl, rfl⟩ ⟨Nat.le_of_ble_eq_true rfl, Nat.le_of_ble_eq_true rfl⟩ rfl hl (Nat.le_of_ble_eq_true rfl) ⟨show 1 ≤ (1 : Nat) by omega, show 0 + hs ≤ (8 : Nat) by omega⟩ dL_areSeen_113 ?_
                      refine lv_icmpN_lt (tgt := 139) hx hb dL_areSeen_116 (by decide) (by omega) (by omega) (fun c_116 => ?_) (fun c_116 => ?_)
                      · skip
                        omega
                      · skip
                        refine lv_iload hx hb dL_areSeen_119 (lv_at hl 9 rfl) ?_
                        refine lv_aload_n hx hb dL_areSeen_121 rfl (lv_at hl 3 rfl) ?_
                        refine lv_iload hx hb dL_areSeen_122 (lv_at hl 2 rfl) ?_
                        refine lv_iconstN hx hb 2 dL_areSeen_124 (by decide) ?_
                        refine la_V (As := [.int (nI j), .int (nI 2)]) (rest := [.int (nI k)]) (v := nI (cy.R 7 j)) hx hb hml hown hC hS hAb hW (fun ly L ad hX => RoI.cast ol2 (mX3_ofLayer_g l hX j 2 (show j < cy.R 10 2 by first | assumption | omega) (show 2 ≤ 13 by first | assumption | omega))) kV_L_55 ⟨rfl, rfl⟩ ⟨Nat.le_of_ble_eq_true rfl, Nat.le_of_ble_eq_true rfl⟩ rfl hl (Nat.le_of_ble_eq_true rfl) ⟨show 1 ≤ (1 : Nat) by omega, show 0 + hs ≤ (8 : Nat) by omega⟩ dL_areSeen_125 ?_
                        refine lv_aload_n hx hb dL_areSeen_128 rfl (lv_at hl 3 rfl) ?_
                        refine lv_iload hx hb dL_areSeen_129 (lv_at hl 2 rfl) ?_
                        refine lv_iconstN hx hb 3 dL_areSeen_131 (by decide) ?_
                        refine la_V (As := [.int (nI j), .int (nI 3)]) (rest := [.int (nI (cy.R 7 j)), .int (nI k)]) (v := nI (cy.R 8 j)) hx hb hml hown hC hS hAb hW (fun ly L ad hX => RoI.cast ol3 (mX3_ofLayer_g l hX j 3 (show j < cy.R 10 2 by first | assumption | omega) (show 3 ≤ 13 by first | assumption | omega))) kV_L_55 ⟨rfl, rfl⟩ ⟨Nat.le_of_ble_eq_true rfl, Nat.le_of_ble_eq_true rfl⟩ rfl hl (Nat.le_of_ble_eq_true rfl) ⟨show 1 ≤ (1 : Nat) by omega, show 0 + hs ≤ (8 : Nat) by omega⟩ dL_areSeen_132 ?_
                        refine lv_iaddN hx hb dL_areSeen_135 ?_
                        refine lv_icmpN_lt (tgt := 141) hx hb dL_areSeen_136 (by decide) (by omega) (by omega) (fun c_136 => ?_) (fun c_136 => ?_)
                        · skip
                          refine lv_iincN (v := 1) (lv' := [(7, .int (nI (k + 1))), (9, .int (nI (cy.R 9 j))), (5, .int (nI (ce + 1))), (8, .int (nI j)), (0, .ref x), (1, .ref aw), (2, .int (nI hs)), (3, .ref af), (4, .ref fm), (6, .int (nI w))]) hx hb dL_areSeen_141 hl (k := 9) rfl (by decide) (by decide) rfl (fun ls hl => ?_)
                          refine lv_goto (tgt := 20) hx hb dL_areSeen_144 (by decide) ?_
                          exact ih20 (k + 1) (ce + 1) (upd ff (cy.R 5 j) ((ff (cy.R 5 j)) + ((cy.I 2 w) * (wtf (cy.R 9 j))))) (by omega) (by rw [ceP_s hd, hce]) (fm_st hff hd hoj) (by omega) _ _ hW hS hI_aw hI_af hI_fm _ (lv_sub hl [4, 5, 6, 7, 8, 2, 9, 0] rfl)
                        · skip
                          omega
                · skip
                  have c_41 := Int32.not_le.mp c_41
                  exact absurd c_41 (nI_pos (by omega))
        exact lp20 (cy.R 1 w - 0 + 1) 0 ce ff (Nat.zero_le _) (hce) (hff) (Nat.lt_succ_self _) _ _ hW hS hI_aw hI_af hI_fm _ (lv_sub hl [1, 2, 3, 4, 5, 6, 7, 0] rfl)
  exact lp11 (3 - 0 + 1) 0 0 (fun _ => nI 0) (by omega) (rfl) (fun z _ => faP_0.symm) (Nat.lt_succ_self _) _ _ hW hS hI_aw hI_af hI_fm _ (lv_sub hl [3, 4, 5, 6, 2, 1, 0] rfl)
