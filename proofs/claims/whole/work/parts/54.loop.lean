section CAS
variable {p : Program} {l : Launch} {e : Env} {s : State} {m : MethodId} {below : List Frame} {meth : Method} {co : Code} {bb Ln : Nat} {xs : Nat → Int32} {E : En} {Q : State → Prop}
set_option maxHeartbeats 4000000 in
set_option maxRecDepth 100000 in
/-- one round, at the choice -/
theorem law_sw (C0 : LC p l s m co E bb Ln xs) {c : Cy} {th : Int32} {v0 : Int64} {H : Heap} {locs : List Loc} {x mm out : Nat} (hT : LT E s.heap x mm out c c th v0 H locs) {ii : Nat} (hii : ii + 7 ≤ Ln) {cells slots : Nat} (hcs : cells + 1100 ≤ 609960 ∧ slots + 14000 ≤ 7266223) {ls : Array Slot} (hl : lv_has ls 9 [(4, .int (nI ii)), (0, .ref bb), (1, .ref x), (2, .ref mm), (3, .ref out)]) (kk : KK p l e s m below meth co bb E Q x mm out ii cells slots) : W p l e room_1 s m #[Value.ref bb] below meth co H locs cells slots Q (F0 m 40 ls [.int (xs ii &&& nI 31)]) := by
  have hx := C0.1
  have hb := C0.2.1
  by_cases c_0 : xs ii &&& nI 31 = nI 0
  · refine lv_tableIn (tgt := 156) (off := 116) hx hb dL_law_40 (by rw [c_0]; decide) (by rw [c_0]; decide) (by rw [c_0]; decide) (by decide) ?_
    exact ld_wall C0 hT hii hcs hl kk
  by_cases c_1 : xs ii &&& nI 31 = nI 1
  · refine lv_tableIn (tgt := 248) (off := 208) hx hb dL_law_40 (by rw [c_1]; decide) (by rw [c_1]; decide) (by rw [c_1]; decide) (by decide) ?_
    exact ld_hand C0 hT hii hcs hl kk
  by_cases c_2 : xs ii &&& nI 31 = nI 2
  · refine lv_tableIn (tgt := 340) (off := 300) hx hb dL_law_40 (by rw [c_2]; decide) (by rw [c_2]; decide) (by rw [c_2]; decide) (by decide) ?_
    exact ld_permit C0 hT hii hcs hl kk
  by_cases c_3 : xs ii &&& nI 31 = nI 3
  · refine lv_tableIn (tgt := 420) (off := 380) hx hb dL_law_40 (by rw [c_3]; decide) (by rw [c_3]; decide) (by rw [c_3]; decide) (by decide) ?_
    exact ld_watch C0 hT hii hcs hl kk
  by_cases c_4 : xs ii &&& nI 31 = nI 4
  · refine lv_tableIn (tgt := 500) (off := 460) hx hb dL_law_40 (by rw [c_4]; decide) (by rw [c_4]; decide) (by rw [c_4]; decide) (by decide) ?_
    exact ld_paint C0 hT hii hcs hl kk
  by_cases c_5 : xs ii &&& nI 31 = nI 5
  · refine lv_tableIn (tgt := 618) (off := 578) hx hb dL_law_40 (by rw [c_5]; decide) (by rw [c_5]; decide) (by rw [c_5]; decide) (by decide) ?_
    exact ld_buff C0 hT hii hcs hl kk
  by_cases c_6 : xs ii &&& nI 31 = nI 6
  · refine lv_tableIn (tgt := 674) (off := 634) hx hb dL_law_40 (by rw [c_6]; decide) (by rw [c_6]; decide) (by rw [c_6]; decide) (by decide) ?_
    exact ld_clear C0 hT hii hcs hl kk
  by_cases c_7 : xs ii &&& nI 31 = nI 7
  · refine lv_tableIn (tgt := 730) (off := 690) hx hb dL_law_40 (by rw [c_7]; decide) (by rw [c_7]; decide) (by rw [c_7]; decide) (by decide) ?_
    exact ld_sell C0 hT hii hcs hl kk
  by_cases c_8 : xs ii &&& nI 31 = nI 8
  · refine lv_tableIn (tgt := 786) (off := 746) hx hb dL_law_40 (by rw [c_8]; decide) (by rw [c_8]; decide) (by rw [c_8]; decide) (by decide) ?_
    exact ld_waive C0 hT hii hcs hl kk
  by_cases c_9 : xs ii &&& nI 31 = nI 9
  · refine lv_tableIn (tgt := 849) (off := 809) hx hb dL_law_40 (by rw [c_9]; decide) (by rw [c_9]; decide) (by rw [c_9]; decide) (by decide) ?_
    exact ld_remember C0 hT hii hcs hl kk
  by_cases c_10 : xs ii &&& nI 31 = nI 10
  · refine lv_tableIn (tgt := 912) (off := 872) hx hb dL_law_40 (by rw [c_10]; decide) (by rw [c_10]; decide) (by rw [c_10]; decide) (by decide) ?_
    exact ld_pay C0 hT hii hcs hl kk
  by_cases c_11 : xs ii &&& nI 31 = nI 11
  · refine lv_tableIn (tgt := 968) (off := 928) hx hb dL_law_40 (by rw [c_11]; decide) (by rw [c_11]; decide) (by rw [c_11]; decide) (by decide) ?_
    exact ld_pass C0 hT hii hcs hl kk
  by_cases c_12 : xs ii &&& nI 31 = nI 12
  · refine lv_tableIn (tgt := 1024) (off := 984) hx hb dL_law_40 (by rw [c_12]; decide) (by rw [c_12]; decide) (by rw [c_12]; decide) (by decide) ?_
    exact ld_ofWall C0 hT hii hcs hl kk
  by_cases c_13 : xs ii &&& nI 31 = nI 13
  · refine lv_tableIn (tgt := 1092) (off := 1052) hx hb dL_law_40 (by rw [c_13]; decide) (by rw [c_13]; decide) (by rw [c_13]; decide) (by decide) ?_
    exact ld_shows C0 hT hii hcs hl kk
  by_cases c_14 : xs ii &&& nI 31 = nI 14
  · refine lv_tableIn (tgt := 1160) (off := 1120) hx hb dL_law_40 (by rw [c_14]; decide) (by rw [c_14]; decide) (by rw [c_14]; decide) (by decide) ?_
    exact ld_ofHand C0 hT hii hcs hl kk
  by_cases c_15 : xs ii &&& nI 31 = nI 15
  · refine lv_tableIn (tgt := 1228) (off := 1188) hx hb dL_law_40 (by rw [c_15]; decide) (by rw [c_15]; decide) (by rw [c_15]; decide) (by decide) ?_
    exact ld_ofLayer C0 hT hii hcs hl kk
  by_cases c_16 : xs ii &&& nI 31 = nI 16
  · refine lv_tableIn (tgt := 1296) (off := 1256) hx hb dL_law_40 (by rw [c_16]; decide) (by rw [c_16]; decide) (by rw [c_16]; decide) (by decide) ?_
    exact ld_wrongs C0 hT hii hcs hl kk
  by_cases c_17 : xs ii &&& nI 31 = nI 17
  · refine lv_tableIn (tgt := 1364) (off := 1324) hx hb dL_law_40 (by rw [c_17]; decide) (by rw [c_17]; decide) (by rw [c_17]; decide) (by decide) ?_
    exact ld_likeness C0 hT hii hcs hl kk
  by_cases c_18 : xs ii &&& nI 31 = nI 18
  · refine lv_tableIn (tgt := 1432) (off := 1392) hx hb dL_law_40 (by rw [c_18]; decide) (by rw [c_18]; decide) (by rw [c_18]; decide) (by decide) ?_
    exact ld_many C0 hT hii hcs hl kk
  by_cases c_19 : xs ii &&& nI 31 = nI 19
  · refine lv_tableIn (tgt := 1488) (off := 1448) hx hb dL_law_40 (by rw [c_19]; decide) (by rw [c_19]; decide) (by rw [c_19]; decide) (by decide) ?_
    exact lc_meanFame C0 hT hii hcs hl kk
  by_cases c_20 : xs ii &&& nI 31 = nI 20
  · refine lv_tableIn (tgt := 1529) (off := 1489) hx hb dL_law_40 (by rw [c_20]; decide) (by rw [c_20]; decide) (by rw [c_20]; decide) (by decide) ?_
    exact ld_bestFrom C0 hT hii hcs hl kk
  by_cases c_21 : xs ii &&& nI 31 = nI 21
  · refine lv_tableIn (tgt := 1621) (off := 1581) hx hb dL_law_40 (by rw [c_21]; decide) (by rw [c_21]; decide) (by rw [c_21]; decide) (by decide) ?_
    exact ld_wouldWrong C0 hT hii hcs hl kk
  by_cases c_22 : xs ii &&& nI 31 = nI 22
  · refine lv_tableIn (tgt := 1725) (off := 1685) hx hb dL_law_40 (by rw [c_22]; decide) (by rw [c_22]; decide) (by rw [c_22]; decide) (by decide) ?_
    exact lc_nextBuff C0 hT hii hcs hl kk
  by_cases c_23 : xs ii &&& nI 31 = nI 23
  · refine lv_tableIn (tgt := 1738) (off := 1698) hx hb dL_law_40 (by rw [c_23]; decide) (by rw [c_23]; decide) (by rw [c_23]; decide) (by decide) ?_
    exact ld_wouldFame C0 hT hii hcs hl kk
  by_cases c_24 : xs ii &&& nI 31 = nI 24
  · refine lv_tableIn (tgt := 1806) (off := 1766) hx hb dL_law_40 (by rw [c_24]; decide) (by rw [c_24]; decide) (by rw [c_24]; decide) (by decide) ?_
    exact lc_digest C0 hT hii hcs hl kk
  refine lv_tableOut (tgt := 1820) hx hb dL_law_40 (sw_out 25 (fun k hk => by match k, hk with | 0, _ => exact c_0 | 1, _ => exact c_1 | 2, _ => exact c_2 | 3, _ => exact c_3 | 4, _ => exact c_4 | 5, _ => exact c_5 | 6, _ => exact c_6 | 7, _ => exact c_7 | 8, _ => exact c_8 | 9, _ => exact c_9 | 10, _ => exact c_10 | 11, _ => exact c_11 | 12, _ => exact c_12 | 13, _ => exact c_13 | 14, _ => exact c_14 | 15, _ => exact c_15 | 16, _ => exact c_16 | 17, _ => exact c_17 | 18, _ => exact c_18 | 19, _ => exact c_19 | 20, _ => exact c_20 | 21, _ => exact c_21 | 22, _ => exact c_22 | 23, _ => exact c_23 | 24, _ => exact c_24 | n + 25, hk => exact absurd hk (by omega))) (by decide) ?_
  refine W.widen (k := cells + 1100) (n := slots + 14000) (by omega) (by omega) ?_
  exact kk _ _ _ _ _ _ hT hl
set_option maxHeartbeats 4000000 in
set_option maxRecDepth 100000 in
theorem law_loop (C0 : LC p l s m co E bb Ln xs) {x mm out : Nat} (hEnd : ∀ (H : Heap) (locs : List Loc) (ls : Array Slot) (cells slots : Nat), va_S (bA E) s.heap H locs → cells ≤ 609960 → slots ≤ 7266223 → W p l e room_1 s m #[Value.ref bb] below meth co H locs cells slots Q (F0 m 1826 ls [])) :
    ∀ (fu k ii : Nat), ii = 7 * k → ii ≤ Ln → Ln - ii < fu → ∀ (c : Cy) (th : Int32) (v : Int64) (H : Heap) (locs : List Loc) (ls : Array Slot), LT E s.heap x mm out c c th v H locs → lv_has ls 9 [(4, .int (nI ii)), (0, .ref bb), (1, .ref x), (2, .ref mm), (3, .ref out)] → W p l e room_1 s m #[Value.ref bb] below meth co H locs (9 + 1100 * k) (32 + 14000 * k) Q (F0 m 23 ls []) := by
  obtain ⟨hx, hb, hml, hown, hC, hNc, hXs, hbl, hE0, hst, hLn⟩ := id C0
  have hbb : ¬ bA E bb := by show ¬ E.2 0 ≤ bb; rw [hE0]; exact Nat.not_le.mpr hbl
  intro fu
  induction fu with
  | zero => intro k ii hk hi hfu; exact absurd hfu (Nat.not_lt_zero _)
  | succ fu ih =>
    intro k ii hk hi hfu c th v H locs ls hT hl
    have hS : va_S (bA E) s.heap H locs := by obtain ⟨ly, L, ad, ly', L', ad', -, -, -, -, -, -, -, -, -, hS⟩ := hT; exact hS
    refine lv_iload hx hb dL_law_23 (lv_at hl 0 rfl) ?_
    refine lv_aload_n hx hb dL_law_25 rfl (lv_at hl 1 rfl) ?_
    refine va_slen hx hb hXs hbl hbb hS dL_law_26 ?_
    refine lv_bipushN hx hb 7 dL_law_27 (by decide) ?_
    refine lv_isub hx hb dL_law_29 ?_
    have z1 : isZ (nI Ln - nI 7) ((Ln : Int) - 7) := isZ_sub (isZ_n (by omega)) (isZ_n (n := 7) (by decide)) (by omega)
    have z2 : isZ (nI ii) (ii : Int) := isZ_n (by omega)
    refine lv_icmp_gt (tgt := 1826) hx hb dL_law_30 (by decide) (fun c_30 => ?_) (fun c_30 => ?_)
    · exact hEnd H locs ls _ _ hS (by omega) (by omega)
    · have hii : ii + 7 ≤ Ln := by
        have h9 : ¬ nI Ln - nI 7 < nI ii := c_30
        rw [isZ_lt z1 z2] at h9
        omega
      refine lv_aload_n hx hb dL_law_33 rfl (lv_at hl 1 rfl) ?_
      refine lv_iload hx hb dL_law_34 (lv_at hl 0 rfl) ?_
      refine lw_sld hx hb hXs hbl hbb hS (show ii < Ln by omega) hLn dL_law_36 ?_
      refine lv_bipushN hx hb 31 dL_law_37 (by decide) ?_
      refine lv_iand hx hb dL_law_39 ?_
      refine law_sw C0 hT hii ⟨by omega, by omega⟩ hl ?_
      intro c' th' v' H1 locs1 ls1 hT1 hl1
      refine lv_iincN (v := 7) (lv' := [(4, .int (nI (ii + 7))), (0, .ref bb), (1, .ref x), (2, .ref mm), (3, .ref out)]) hx hb dL_law_1820 hl1 (k := 0) rfl (by decide) (by decide) rfl (fun ls hl => ?_)
      refine lv_goto (tgt := 23) hx hb dL_law_1823 (by decide) ?_
      have e1 : 9 + 1100 * k + 1100 = 9 + 1100 * (k + 1) := by omega
      have e2 : 32 + 14000 * k + 14000 = 32 + 14000 * (k + 1) := by omega
      rw [e1, e2]
      exact ih (k + 1) (ii + 7) (by omega) hii (by omega) c' th' v' H1 locs1 ls hT1 hl
end CAS
