set_option maxHeartbeats 4000000 in
set_option maxRecDepth 100000 in
theorem mX7_isIn (l : Launch) {E : En} {H : Heap} (v a b : Int32)  : RoI l yX7_isIn cX7_isIn 3 .boolean (rmk 0 0 0 0) [.int v, .int a, .int b] E H (bI (isInS v a b)) := by
  refine ro_of (by decide) (Nat.le_of_ble_eq_true rfl) ?_
  intro p e s m below meth co ls hx hb hr hml hown hlocks hnm hC hU hl
  have hS : va_S noA s.heap H [] := by rw [hU]; exact va_S.rf
  have hAb : ∀ q, noA q → bA E q := fun _ h => h.elim
  have hl : lv_has ls 3 [(0, .int v), (1, .int a), (2, .int b)] := hl
  refine lv_iload_n hx hb dX7_isIn_0 rfl (lv_at hl 0 rfl) ?_
  refine lv_iload_n hx hb dX7_isIn_1 rfl (lv_at hl 1 rfl) ?_
  refine lv_icmp_lt (tgt := 14) hx hb dX7_isIn_2 (by decide) (fun c_2 => ?_) (fun c_2 => ?_)
  · skip
    refine lv_iconstN hx hb 0 dX7_isIn_14 (by decide) ?_
    exact ro_zretB (b1 := false) hx hb hr hlocks hU (by decide) (by first | rfl | (simp [isInS, c_2]; done) | (simp [isInS, c_2]; omega) | (simp_all [isInS, c_2]; done)) dX7_isIn_15
  · skip
    refine lv_iload_n hx hb dX7_isIn_5 rfl (lv_at hl 0 rfl) ?_
    refine lv_iload_n hx hb dX7_isIn_6 rfl (lv_at hl 2 rfl) ?_
    refine lv_icmp_gt (tgt := 14) hx hb dX7_isIn_7 (by decide) (fun c_7 => ?_) (fun c_7 => ?_)
    · skip
      refine lv_iconstN hx hb 0 dX7_isIn_14 (by decide) ?_
      exact ro_zretB (b1 := false) hx hb hr hlocks hU (by decide) (by first | rfl | (simp [isInS, c_2, c_7]; done) | (simp [isInS, c_2, c_7]; omega) | (simp_all [isInS, c_2, c_7]; done)) dX7_isIn_15
    · skip
      refine lv_iconstN hx hb 1 dX7_isIn_10 (by decide) ?_
      refine lv_goto (tgt := 15) hx hb dX7_isIn_11 (by decide) ?_
      exact ro_zretB (b1 := true) hx hb hr hlocks hU (by decide) (by first | rfl | (simp [isInS, c_2, c_7]; done) | (simp [isInS, c_2, c_7]; omega) | (simp_all [isInS, c_2, c_7]; done)) dX7_isIn_15
set_option maxHeartbeats 4000000 in
set_option maxRecDepth 100000 in
theorem mX7_add (l : Launch) {E : En} {H : Heap} (d v : Int64)  : RoL l yX7_add cX7_add 4 (rmk 0 0 0 0) [.long d, .long v] E H (d * 31 + v) := by
  refine ro_of (by decide) (Nat.le_of_ble_eq_true rfl) ?_
  intro p e s m below meth co ls hx hb hr hml hown hlocks hnm hC hU hl
  have hS : va_S noA s.heap H [] := by rw [hU]; exact va_S.rf
  have hAb : ∀ q, noA q → bA E q := fun _ h => h.elim
  have hl : lv_has ls 4 [(0, .long d), (2, .long v)] := hl
  refine lv_lload_n hx hb dX7_add_0 rfl (lv_at hl 0 rfl) ?_
  refine lv_ldc2 (v := 31) hx hb hown (hC.2.1.at (List.mem_append_right _ (List.mem_of_getElem? (i := 1303) (by decide +kernel))) (by decide +kernel) _) dX7_add_1 ?_
  refine lv_lmul hx hb dX7_add_4 ?_
  refine lv_lload_n hx hb dX7_add_5 rfl (lv_at hl 1 rfl) ?_
  refine lv_ladd hx hb dX7_add_6 ?_
  exact ro_lret (x := (d * 31) + v) hx hb hr hlocks hU (by first | rfl | (simp []; done) | (simp []; omega) | (simp_all []; done)) dX7_add_7
set_option maxHeartbeats 4000000 in
set_option maxRecDepth 100000 in
theorem mX6_permitted (l : Launch) {E : En} {c : Cy} {th : Int32} {ly : Ly} {L : List Nat} {ad : Nat → Nat → Nat} {H : Heap} (hX : PM E c th ly L ad H) (i : Nat) (t : Int32) (hi : i < c.R 11 0) : RoI l yX6_permitted cX6_permitted 2 .int (rmk 0 0 0 0) [.ref (ad 3 i), .int t] E H (pcS c i t) := by
  obtain ⟨hP, hly, hLb, wf, eq0, eq1, eq2⟩ := id hX
  refine ro_of (by decide) (Nat.le_of_ble_eq_true rfl) ?_
  intro p e s m below meth co ls hx hb hr hml hown hlocks hnm hC hU hl
  have hS : va_S noA s.heap H [] := by rw [hU]; exact va_S.rf
  have hAb : ∀ q, noA q → bA E q := fun _ h => h.elim
  have hl : lv_has ls 2 [(0, .ref (ad 3 i)), (1, .int t)] := hl
  refine lv_iload_n hx hb dX6_permitted_0 rfl (lv_at hl 1 rfl) ?_
  refine lv_aload_n hx hb dX6_permitted_1 rfl (lv_at hl 0 rfl) ?_
  refine pi_get hx hb hC hown hP fL_X6_15 3 i (cM_3 hi) (v := .int (c.I 5 i)) rfl dX6_permitted_2 ?_
  refine lv_icmp_gt (tgt := 15) hx hb dX6_permitted_5 (by decide) (fun c_5 => ?_) (fun c_5 => ?_)
  · skip
    refine lv_iconst (v := -1) hx hb dX6_permitted_15 (by decide) ?_
    exact ro_iret (x := (-1)) hx hb hr hlocks hU (by first | rfl | (simp [pcS, c_5]; done) | (simp [pcS, c_5]; omega) | (simp_all [pcS, c_5]; done)) dX6_permitted_16
  · skip
    refine lv_aload_n hx hb dX6_permitted_8 rfl (lv_at hl 0 rfl) ?_
    refine pi_get hx hb hC hown hP fL_X6_9 3 i (cM_3 hi) (v := .int (c.I 4 i)) rfl dX6_permitted_9 ?_
    refine lv_goto (tgt := 16) hx hb dX6_permitted_12 (by decide) ?_
    exact ro_iret (x := c.I 4 i) hx hb hr hlocks hU (by first | rfl | (simp [pcS, c_5]; done) | (simp [pcS, c_5]; omega) | (simp_all [pcS, c_5]; done)) dX6_permitted_16
set_option maxHeartbeats 4000000 in
set_option maxRecDepth 100000 in
theorem mX6_many (l : Launch) {E : En} {c : Cy} {th : Int32} {ly : Ly} {L : List Nat} {ad : Nat → Nat → Nat} {H : Heap} (hX : PM E c th ly L ad H) (i : Nat) (v : Int32) (hi : i < c.R 11 0) : RoI l yX6_many cX6_many 7 .int (rmk 0 0 0 0) [.ref (ad 3 i), .int v] E H (nI (mnS c i v)) := by
  obtain ⟨hP, hly, hLb, wf, eq0, eq1, eq2⟩ := id hX
  refine ro_of (by decide) (Nat.le_of_ble_eq_true rfl) ?_
  intro p e s m below meth co ls hx hb hr hml hown hlocks hnm hC hU hl
  have hS : va_S noA s.heap H [] := by rw [hU]; exact va_S.rf
  have hAb : ∀ q, noA q → bA E q := fun _ h => h.elim
  have hl : lv_has ls 7 [(0, .ref (ad 3 i)), (1, .int v)] := hl
  refine lv_iconstN hx hb 0 dX6_many_0 (by decide) ?_
  refine lv_istore_n (lv' := [(2, .int (nI 0)), (0, .ref (ad 3 i)), (1, .int v)]) hx hb dX6_many_1 rfl hl (by decide) rfl (fun ls hl => ?_)
  refine lv_aload_n hx hb dX6_many_2 rfl (lv_at hl 1 rfl) ?_
  refine pi_get hx hb hC hown hP fL_X6_33 3 i (cM_3 hi) (v := .ref (ad 4 i)) rfl dX6_many_3 ?_
  have g_1 := wf.wd hi
  refine lv_astore_n (lv' := [(3, .ref (ad 4 i)), (2, .int (nI 0)), (0, .ref (ad 3 i)), (1, .int v)]) hx hb dX6_many_6 rfl hl (by decide) rfl (fun ls hl => ?_)
  refine lv_aload_n hx hb dX6_many_7 rfl (lv_at hl 0 rfl) ?_
  refine pi_alen hx hb hC hP 4 i 0 rfl (cM_4 hi) dX6_many_8 ?_
  have g_2 := wf.wd hi
  refine lv_istore (lv' := [(4, .int (nI (c.R 1 i))), (3, .ref (ad 4 i)), (2, .int (nI 0)), (0, .ref (ad 3 i)), (1, .int v)]) hx hb dX6_many_9 hl (by decide) rfl (fun ls hl => ?_)
  refine lv_iconstN hx hb 0 dX6_many_11 (by decide) ?_
  refine lv_istore (lv' := [(5, .int (nI 0)), (4, .int (nI (c.R 1 i))), (3, .ref (ad 4 i)), (2, .int (nI 0)), (0, .ref (ad 3 i)), (1, .int v)]) hx hb dX6_many_12 hl (by decide) rfl (fun ls hl => ?_)
  have lp14 : ∀ fu : Nat, ∀ (k a : Nat), k ≤ c.R 1 i → a = cntN (fun k => decide (shI c i k = v)) k → c.R 1 i - k < fu → ∀ ls : Array Slot, lv_has ls 7 [(0, .ref (ad 3 i)), (1, .int v), (2, .int (nI a)), (3, .ref (ad 4 i)), (4, .int (nI (c.R 1 i))), (5, .int (nI k))] → W p l e (rmk 0 0 0 0) s m ([.ref (ad 3 i), .int v] : List Value).toArray below meth co H [] 0 0 (MQ below (QiR (nI (mnS c i v)) H) ([.ref (ad 3 i), .int v] : List Value).toArray s 0 0 noA) (F0 m 14 ls []) := by
    intro fu
    induction fu with
    | zero => intro k a hk ha hfu; exact absurd hfu (Nat.not_lt_zero _)
    | succ fu ih14 =>
      intro k a hk ha hfu ls hl
      refine lv_iload hx hb dX6_many_14 (lv_at hl 5 rfl) ?_
      refine lv_iload hx hb dX6_many_16 (lv_at hl 4 rfl) ?_
      refine lv_icmpN_ge (tgt := 47) hx hb dX6_many_18 (by decide) (by omega) (by omega) (fun c_18 => ?_) (fun c_18 => ?_)
      · skip
        refine lv_iload_n hx hb dX6_many_47 rfl (lv_at hl 2 rfl) ?_
        exact ro_iret (x := nI a) hx hb hr hlocks hU (by first | (rw [ha, show k = c.R 1 i by omega]; done) | (rw [ha, show k = c.R 1 i by omega]; rfl)) dX6_many_48
      · skip
        refine lv_aload_n hx hb dX6_many_21 rfl (lv_at hl 3 rfl) ?_
        refine lv_iload hx hb dX6_many_22 (lv_at hl 5 rfl) ?_
        refine pi_iald hx hb hC hP 4 i (cM_4 hi) (j := k) (by first | assumption | omega) (by omega) dX6_many_24 ?_
        refine lv_istore (lv' := [(6, .int (shI c i k)), (0, .ref (ad 3 i)), (1, .int v), (2, .int (nI a)), (3, .ref (ad 4 i)), (4, .int (nI (c.R 1 i))), (5, .int (nI k))]) hx hb dX6_many_25 hl (by decide) rfl (fun ls hl => ?_)
        refine lv_iload_n hx hb dX6_many_27 rfl (lv_at hl 3 rfl) ?_
        refine lv_iload hx hb dX6_many_28 (lv_at hl 0 rfl) ?_
        refine lv_iload_n hx hb dX6_many_30 rfl (lv_at hl 2 rfl) ?_
        refine lv_icmp_ne (tgt := 38) hx hb dX6_many_31 (by decide) (fun c_31 => ?_) (fun c_31 => ?_)
        · skip
          refine lv_iconstN hx hb 0 dX6_many_38 (by decide) ?_
          refine lv_iaddN hx hb dX6_many_39 ?_
          refine lv_istore_n (lv' := [(2, .int (nI (a + 0))), (6, .int (shI c i k)), (0, .ref (ad 3 i)), (1, .int v), (3, .ref (ad 4 i)), (4, .int (nI (c.R 1 i))), (5, .int (nI k))]) hx hb dX6_many_40 rfl hl (by decide) rfl (fun ls hl => ?_)
          refine lv_iincN (v := 1) (lv' := [(5, .int (nI (k + 1))), (2, .int (nI (a + 0))), (6, .int (shI c i k)), (0, .ref (ad 3 i)), (1, .int v), (3, .ref (ad 4 i)), (4, .int (nI (c.R 1 i)))]) hx hb dX6_many_41 hl (k := 6) rfl (by decide) (by decide) rfl (fun ls hl => ?_)
          refine lv_goto (tgt := 14) hx hb dX6_many_44 (by decide) ?_
          exact ih14 (k + 1) (a + 0) (by first | rfl | assumption | omega | (simp [ha, c_18, c_31]; done) | (simp_all [ha, c_18, c_31]; done)) (by first | exact (congrArg (· + 1) ha).trans (cntN_t (P := fun k => decide (shI c i k = v)) (by simp [ha, c_18, c_31])).symm | exact ha.trans (cntN_f (P := fun k => decide (shI c i k = v)) (by simp [ha, c_18, c_31])).symm) (by omega) _ (lv_sub hl [3, 4, 1, 5, 6, 0] rfl)
        · skip
          refine lv_iconstN hx hb 1 dX6_many_34 (by decide) ?_
          refine lv_goto (tgt := 39) hx hb dX6_many_35 (by decide) ?_
          refine lv_iaddN hx hb dX6_many_39 ?_
          refine lv_istore_n (lv' := [(2, .int (nI (a + 1))), (6, .int (shI c i k)), (0, .ref (ad 3 i)), (1, .int v), (3, .ref (ad 4 i)), (4, .int (nI (c.R 1 i))), (5, .int (nI k))]) hx hb dX6_many_40 rfl hl (by decide) rfl (fun ls hl => ?_)
          refine lv_iincN (v := 1) (lv' := [(5, .int (nI (k + 1))), (2, .int (nI (a + 1))), (6, .int (shI c i k)), (0, .ref (ad 3 i)), (1, .int v), (3, .ref (ad 4 i)), (4, .int (nI (c.R 1 i)))]) hx hb dX6_many_41 hl (k := 6) rfl (by decide) (by decide) rfl (fun ls hl => ?_)
          refine lv_goto (tgt := 14) hx hb dX6_many_44 (by decide) ?_
          exact ih14 (k + 1) (a + 1) (by first | rfl | assumption | omega | (simp [ha, c_18, c_31]; done) | (simp_all [ha, c_18, c_31]; done)) (by first | exact (congrArg (· + 1) ha).trans (cntN_t (P := fun k => decide (shI c i k = v)) (by simp [ha, c_18, c_31])).symm | exact ha.trans (cntN_f (P := fun k => decide (shI c i k = v)) (by simp [ha, c_18, c_31])).symm) (by omega) _ (lv_sub hl [3, 4, 1, 5, 6, 0] rfl)
  exact lp14 (c.R 1 i - 0 + 1) 0 0 (by first | rfl | assumption | omega | (simp []; done) | (simp_all []; done)) (rfl) (Nat.lt_succ_self _) _ (lv_sub hl [4, 5, 3, 2, 1, 0] rfl)
set_option maxHeartbeats 4000000 in
set_option maxRecDepth 100000 in
theorem mX6_isWatched (l : Launch) {E : En} {c : Cy} {th : Int32} {ly : Ly} {L : List Nat} {ad : Nat → Nat → Nat} {H : Heap} (hX : PM E c th ly L ad H) (i a b : Nat) (hi : i < c.R 11 0) : RoI l yX6_isWatched cX6_isWatched 3 .boolean (rmk 0 0 0 0) [.ref (ad 3 i), .int (nI a), .int (nI b)] E H (bI (watM c i a b)) := by
  obtain ⟨hP, hly, hLb, wf, eq0, eq1, eq2⟩ := id hX
  refine ro_of (by decide) (Nat.le_of_ble_eq_true rfl) ?_
  intro p e s m below meth co ls hx hb hr hml hown hlocks hnm hC hU hl
  have hS : va_S noA s.heap H [] := by rw [hU]; exact va_S.rf
  have hAb : ∀ q, noA q → bA E q := fun _ h => h.elim
  have hl : lv_has ls 3 [(0, .ref (ad 3 i)), (1, .int (nI a)), (2, .int (nI b))] := hl
  refine lv_aload_n hx hb dX6_isWatched_0 rfl (lv_at hl 0 rfl) ?_
  refine pi_get hx hb hC hown hP fL_X6_18 3 i (cM_3 hi) (v := .int (mfr c i)) rfl dX6_isWatched_1 ?_
  refine lv_iconst (v := -1) hx hb dX6_isWatched_4 (by decide) ?_
  refine lv_icmp_eq (tgt := 30) hx hb dX6_isWatched_5 (by decide) (fun c_5 => ?_) (fun c_5 => ?_)
  · skip
    refine lv_iconstN hx hb 0 dX6_isWatched_30 (by decide) ?_
    exact ro_zretB (b1 := false) hx hb hr hlocks hU (by decide) (by first | rfl | (simp [watM, c_5]; done) | (simp [watM, c_5]; omega) | (simp_all [watM, c_5]; done)) dX6_isWatched_31
  · skip
    refine lv_iload_n hx hb dX6_isWatched_8 rfl (lv_at hl 1 rfl) ?_
    refine lv_aload_n hx hb dX6_isWatched_9 rfl (lv_at hl 0 rfl) ?_
    refine pi_get hx hb hC hown hP fL_X6_21 3 i (cM_3 hi) (v := .int (c.I 7 i)) rfl dX6_isWatched_10 ?_
    refine lv_icmp_gt (tgt := 30) hx hb dX6_isWatched_13 (by decide) (fun c_13 => ?_) (fun c_13 => ?_)
    · skip
      refine lv_iconstN hx hb 0 dX6_isWatched_30 (by decide) ?_
      exact ro_zretB (b1 := false) hx hb hr hlocks hU (by decide) (by first | rfl | (simp [watM, c_5, c_13]; done) | (simp [watM, c_5, c_13]; omega) | (simp_all [watM, c_5, c_13]; done)) dX6_isWatched_31
    · skip
      refine lv_iload_n hx hb dX6_isWatched_16 rfl (lv_at hl 1 rfl) ?_
      refine lv_iload_n hx hb dX6_isWatched_17 rfl (lv_at hl 2 rfl) ?_
      refine lv_iaddN hx hb dX6_isWatched_18 ?_
      refine lv_aload_n hx hb dX6_isWatched_19 rfl (lv_at hl 0 rfl) ?_
      refine pi_get hx hb hC hown hP fL_X6_18 3 i (cM_3 hi) (v := .int (mfr c i)) rfl dX6_isWatched_20 ?_
      refine lv_icmp_le (tgt := 30) hx hb dX6_isWatched_23 (by decide) (fun c_23 => ?_) (fun c_23 => ?_)
      · skip
        have c_23 := Int32.not_lt.mpr c_23
        refine lv_iconstN hx hb 0 dX6_isWatched_30 (by decide) ?_
        exact ro_zretB (b1 := false) hx hb hr hlocks hU (by decide) (by first | rfl | (simp [watM, c_5, c_13, c_23]; done) | (simp [watM, c_5, c_13, c_23]; omega) | (simp_all [watM, c_5, c_13, c_23]; done)) dX6_isWatched_31
      · skip
        have c_23 := Int32.not_le.mp c_23
        refine lv_iconstN hx hb 1 dX6_isWatched_26 (by decide) ?_
        refine lv_goto (tgt := 31) hx hb dX6_isWatched_27 (by decide) ?_
        exact ro_zretB (b1 := true) hx hb hr hlocks hU (by decide) (by first | rfl | (simp [watM, c_5, c_13, c_23]; done) | (simp [watM, c_5, c_13, c_23]; omega) | (simp_all [watM, c_5, c_13, c_23]; done)) dX6_isWatched_31
set_option maxHeartbeats 4000000 in
set_option maxRecDepth 100000 in
theorem mX4_minutes (l : Launch) {E : En} {c : Cy} {th : Int32} {ly : Ly} {L : List Nat} {ad : Nat → Nat → Nat} {H : Heap} (hX : PM E c th ly L ad H) (h w k : Nat) (hh : h < c.R 11 1) (hk : k < 4) : RoI l yX4_minutes cX4_minutes 3 .int (rmk 0 0 0 0) [.ref (ad 5 h), .int (nI w), .int (nI k)] E H (nI (w * mcS c h k)) := by
  obtain ⟨hP, hly, hLb, wf, eq0, eq1, eq2⟩ := id hX
  refine ro_of (by decide) (Nat.le_of_ble_eq_true rfl) ?_
  intro p e s m below meth co ls hx hb hr hml hown hlocks hnm hC hU hl
  have hS : va_S noA s.heap H [] := by rw [hU]; exact va_S.rf
  have hAb : ∀ q, noA q → bA E q := fun _ h => h.elim
  have hl : lv_has ls 3 [(0, .ref (ad 5 h)), (1, .int (nI w)), (2, .int (nI k))] := hl
  have gt := tkN_le k
  refine lv_iload_n hx hb dX4_minutes_0 rfl (lv_at hl 1 rfl) ?_
  refine gt_getN hx hb hC.2.2.1.2.2.2.1 hS hAb hown (va_Nw.use rfl (wn_t 1006 (w := .fieldLinkNest "WallcodeModel$Hand" 28 "WallcodeModel" "TAKES" "[I" "WallcodeModel") (by decide +kernel) (by decide +kernel) hC.2.1)) dX4_minutes_1 ?_
  refine lv_iload_n hx hb dX4_minutes_4 rfl (lv_at hl 2 rfl) ?_
  refine gt_ld hx hb hC.2.2.1.2.2.2.1 hS hAb (j := k) (by omega) dX4_minutes_5 ?_
  rw [tkf_N]
  refine lv_aload_n hx hb dX4_minutes_6 rfl (lv_at hl 0 rfl) ?_
  refine pi_get hx hb hC hown hP fL_X4_19 5 h (cM_5 hh) (v := .int (nI (c.R 4 h))) rfl dX4_minutes_7 ?_
  have g_1 := wf.sp hh
  refine lv_iaddN hx hb dX4_minutes_10 ?_
  refine lv_iconstN hx hb 1 dX4_minutes_11 (by decide) ?_
  refine lv_isubN hx hb dX4_minutes_12 (by omega) ?_
  refine lv_aload_n hx hb dX4_minutes_13 rfl (lv_at hl 0 rfl) ?_
  refine pi_get hx hb hC hown hP fL_X4_19 5 h (cM_5 hh) (v := .int (nI (c.R 4 h))) rfl dX4_minutes_14 ?_
  refine lv_idivN hx hb dX4_minutes_17 (by omega) (by omega) (by omega) ?_
  refine lv_imulN hx hb dX4_minutes_18 ?_
  exact ro_iret (x := nI (w * ((((tkN k) + (c.R 4 h)) - 1) / (c.R 4 h)))) hx hb hr hlocks hU (by first | rfl | (simp []; done) | (simp []; omega) | (simp_all []; done)) dX4_minutes_19
set_option maxHeartbeats 4000000 in
set_option maxRecDepth 100000 in
theorem mX7_thrown (l : Launch) {E : En} {c : Cy} {th : Int32} {ly : Ly} {L : List Nat} {ad : Nat → Nat → Nat} {H : Heap} (hX : PM E c th ly L ad H)   : RoI l yX7_thrown cX7_thrown 1 .int (rmk 0 0 0 0) [.ref (ad 0 0)] E H th := by
  obtain ⟨hP, hly, hLb, wf, eq0, eq1, eq2⟩ := id hX
  refine ro_of (by decide) (Nat.le_of_ble_eq_true rfl) ?_
  intro p e s m below meth co ls hx hb hr hml hown hlocks hnm hC hU hl
  have hS : va_S noA s.heap H [] := by rw [hU]; exact va_S.rf
  have hAb : ∀ q, noA q → bA E q := fun _ h => h.elim
  have hl : lv_has ls 1 [(0, .ref (ad 0 0))] := hl
  refine lv_aload_n hx hb dX7_thrown_0 rfl (lv_at hl 0 rfl) ?_
  refine pi_get hx hb hC hown hP fL_X7_26 0 0 cM_0 (v := .int th) rfl dX7_thrown_1 ?_
  exact ro_iret (x := th) hx hb hr hlocks hU (by first | rfl | (simp []; done) | (simp []; omega) | (simp_all []; done)) dX7_thrown_4
set_option maxHeartbeats 4000000 in
set_option maxRecDepth 100000 in
theorem mX7_isNoWall (l : Launch) {E : En} {c : Cy} {th : Int32} {ly : Ly} {L : List Nat} {ad : Nat → Nat → Nat} {H : Heap} (hX : PM E c th ly L ad H) (v : Int32)  : RoI l yX7_isNoWall cX7_isNoWall 2 .boolean (rmk 1 0 0 22) [.ref (ad 0 0), .int v] E H (bI (!isInS v (nI 0) (nI (c.R 10 0) - nI 1))) := by
  obtain ⟨hP, hly, hLb, wf, eq0, eq1, eq2⟩ := id hX
  refine ro_of (by decide) (Nat.le_of_ble_eq_true rfl) ?_
  intro p e s m below meth co ls hx hb hr hml hown hlocks hnm hC hU hl
  have hS : va_S noA s.heap H [] := by rw [hU]; exact va_S.rf
  have hAb : ∀ q, noA q → bA E q := fun _ h => h.elim
  have hl : lv_has ls 2 [(0, .ref (ad 0 0)), (1, .int v)] := hl
  refine lv_iload_n hx hb dX7_isNoWall_0 rfl (lv_at hl 1 rfl) ?_
  refine lv_iconstN hx hb 0 dX7_isNoWall_1 (by decide) ?_
  refine lv_aload_n hx hb dX7_isNoWall_2 rfl (lv_at hl 0 rfl) ?_
  refine pi_get hx hb hC hown hP fL_X7_16 0 0 cM_0 (v := .ref (ad 1 0)) rfl dX7_isNoWall_3 ?_
  refine ro_V (As := []) (h0 := ad 1 0) (rest := [.int (nI 0), .int v]) (v := nI (c.R 10 0)) hx hb hml hown hC hS hAb (mJ_size l hP 0 (cM_1 (by decide))) kV_X7_33 ⟨rfl, rfl⟩ ⟨Nat.le_of_ble_eq_true rfl, Nat.le_of_ble_eq_true rfl⟩ (hP.recv hC (cM_1 (i := 0) (by decide)) rfl) rfl hl (Nat.le_of_ble_eq_true rfl) ⟨Nat.zero_le _, Nat.zero_le _⟩ dX7_isNoWall_6 ?_
  have g_1 := wf.sw
  have g_2 := wf.nw
  refine lv_iconstN hx hb 1 dX7_isNoWall_9 (by decide) ?_
  refine lv_isub hx hb dX7_isNoWall_10 ?_
  refine ro_S (As := [.int v, .int (nI 0), .int ((nI (c.R 10 0)) - (nI 1))]) (rest := []) (v := bI (isInS v (nI 0) ((nI (c.R 10 0)) - (nI 1)))) hx hb hml hown hC hS hAb (mX7_isIn l v (nI 0) ((nI (c.R 10 0)) - (nI 1)) ) kS_X7_37 ⟨rfl, rfl⟩ ⟨Nat.le_of_ble_eq_true rfl, Nat.le_of_ble_eq_true rfl⟩ rfl hl (Nat.le_of_ble_eq_true rfl) ⟨Nat.zero_le _, Nat.zero_le _⟩ dX7_isNoWall_11 ?_
  refine lv_bif_ne (tgt := 21) hx hb dX7_isNoWall_14 (by decide) (fun c_14 => ?_) (fun c_14 => ?_)
  · skip
    refine lv_iconstN hx hb 0 dX7_isNoWall_21 (by decide) ?_
    exact ro_zretB (b1 := false) hx hb hr hlocks hU (by decide) (by first | rfl | (simp [c_14]; done) | (simp [c_14]; omega) | (simp_all [c_14]; done)) dX7_isNoWall_22
  · skip
    refine lv_iconstN hx hb 1 dX7_isNoWall_17 (by decide) ?_
    refine lv_goto (tgt := 22) hx hb dX7_isNoWall_18 (by decide) ?_
    exact ro_zretB (b1 := true) hx hb hr hlocks hU (by decide) (by first | rfl | (simp [c_14]; done) | (simp [c_14]; omega) | (simp_all [c_14]; done)) dX7_isNoWall_22
set_option maxHeartbeats 4000000 in
set_option maxRecDepth 100000 in
theorem mX7_isNoHand (l : Launch) {E : En} {c : Cy} {th : Int32} {ly : Ly} {L : List Nat} {ad : Nat → Nat → Nat} {H : Heap} (hX : PM E c th ly L ad H) (v : Int32)  : RoI l yX7_isNoHand cX7_isNoHand 2 .boolean (rmk 1 0 0 22) [.ref (ad 0 0), .int v] E H (bI (!isInS v (nI 0) (nI (c.R 10 1) - nI 1))) := by
  obtain ⟨hP, hly, hLb, wf, eq0, eq1, eq2⟩ := id hX
  refine ro_of (by decide) (Nat.le_of_ble_eq_true rfl) ?_
  intro p e s m below meth co ls hx hb hr hml hown hlocks hnm hC hU hl
  have hS : va_S noA s.heap H [] := by rw [hU]; exact va_S.rf
  have hAb : ∀ q, noA q → bA E q := fun _ h => h.elim
  have hl : lv_has ls 2 [(0, .ref (ad 0 0)), (1, .int v)] := hl
  refine lv_iload_n hx hb dX7_isNoHand_0 rfl (lv_at hl 1 rfl) ?_
  refine lv_iconstN hx hb 0 dX7_isNoHand_1 (by decide) ?_
  refine lv_aload_n hx hb dX7_isNoHand_2 rfl (lv_at hl 0 rfl) ?_
  refine pi_get hx hb hC hown hP fL_X7_20 0 0 cM_0 (v := .ref (ad 1 1)) rfl dX7_isNoHand_3 ?_
  refine ro_V (As := []) (h0 := ad 1 1) (rest := [.int (nI 0), .int v]) (v := nI (c.R 10 1)) hx hb hml hown hC hS hAb (mJ_size l hP 1 (cM_1 (by decide))) kV_X7_33 ⟨rfl, rfl⟩ ⟨Nat.le_of_ble_eq_true rfl, Nat.le_of_ble_eq_true rfl⟩ (hP.recv hC (cM_1 (i := 1) (by decide)) rfl) rfl hl (Nat.le_of_ble_eq_true rfl) ⟨Nat.zero_le _, Nat.zero_le _⟩ dX7_isNoHand_6 ?_
  have g_1 := wf.sh'
  have g_2 := wf.nh
  refine lv_iconstN hx hb 1 dX7_isNoHand_9 (by decide) ?_
  refine lv_isub hx hb dX7_isNoHand_10 ?_
  refine ro_S (As := [.int v, .int (nI 0), .int ((nI (c.R 10 1)) - (nI 1))]) (rest := []) (v := bI (isInS v (nI 0) ((nI (c.R 10 1)) - (nI 1)))) hx hb hml hown hC hS hAb (mX7_isIn l v (nI 0) ((nI (c.R 10 1)) - (nI 1)) ) kS_X7_37 ⟨rfl, rfl⟩ ⟨Nat.le_of_ble_eq_true rfl, Nat.le_of_ble_eq_true rfl⟩ rfl hl (Nat.le_of_ble_eq_true rfl) ⟨Nat.zero_le _, Nat.zero_le _⟩ dX7_isNoHand_11 ?_
  refine lv_bif_ne (tgt := 21) hx hb dX7_isNoHand_14 (by decide) (fun c_14 => ?_) (fun c_14 => ?_)
  · skip
    refine lv_iconstN hx hb 0 dX7_isNoHand_21 (by decide) ?_
    exact ro_zretB (b1 := false) hx hb hr hlocks hU (by decide) (by first | rfl | (simp [c_14]; done) | (simp [c_14]; omega) | (simp_all [c_14]; done)) dX7_isNoHand_22
  · skip
    refine lv_iconstN hx hb 1 dX7_isNoHand_17 (by decide) ?_
    refine lv_goto (tgt := 22) hx hb dX7_isNoHand_18 (by decide) ?_
    exact ro_zretB (b1 := true) hx hb hr hlocks hU (by decide) (by first | rfl | (simp [c_14]; done) | (simp [c_14]; omega) | (simp_all [c_14]; done)) dX7_isNoHand_22
set_option maxHeartbeats 4000000 in
set_option maxRecDepth 100000 in
theorem mX7_isNoLayer (l : Launch) {E : En} {c : Cy} {th : Int32} {ly : Ly} {L : List Nat} {ad : Nat → Nat → Nat} {H : Heap} (hX : PM E c th ly L ad H) (v : Int32)  : RoI l yX7_isNoLayer cX7_isNoLayer 2 .boolean (rmk 1 0 0 22) [.ref (ad 0 0), .int v] E H (bI (!isInS v (nI 0) (nI (c.R 10 2) - nI 1))) := by
  obtain ⟨hP, hly, hLb, wf, eq0, eq1, eq2⟩ := id hX
  refine ro_of (by decide) (Nat.le_of_ble_eq_true rfl) ?_
  intro p e s m below meth co ls hx hb hr hml hown hlocks hnm hC hU hl
  have hS : va_S noA s.heap H [] := by rw [hU]; exact va_S.rf
  have hAb : ∀ q, noA q → bA E q := fun _ h => h.elim
  have hl : lv_has ls 2 [(0, .ref (ad 0 0)), (1, .int v)] := hl
  refine lv_iload_n hx hb dX7_isNoLayer_0 rfl (lv_at hl 1 rfl) ?_
  refine lv_iconstN hx hb 0 dX7_isNoLayer_1 (by decide) ?_
  refine lv_aload_n hx hb dX7_isNoLayer_2 rfl (lv_at hl 0 rfl) ?_
  refine pi_get hx hb hC hown hP fL_X7_23 0 0 cM_0 (v := .ref (ad 1 2)) rfl dX7_isNoLayer_3 ?_
  refine ro_V (As := []) (h0 := ad 1 2) (rest := [.int (nI 0), .int v]) (v := nI (c.R 10 2)) hx hb hml hown hC hS hAb (mJ_size l hP 2 (cM_1 (by decide))) kV_X7_33 ⟨rfl, rfl⟩ ⟨Nat.le_of_ble_eq_true rfl, Nat.le_of_ble_eq_true rfl⟩ (hP.recv hC (cM_1 (i := 2) (by decide)) rfl) rfl hl (Nat.le_of_ble_eq_true rfl) ⟨Nat.zero_le _, Nat.zero_le _⟩ dX7_isNoLayer_6 ?_
  have g_1 := wf.sl
  have g_2 := wf.nl
  refine lv_iconstN hx hb 1 dX7_isNoLayer_9 (by decide) ?_
  refine lv_isub hx hb dX7_isNoLayer_10 ?_
  refine ro_S (As := [.int v, .int (nI 0), .int ((nI (c.R 10 2)) - (nI 1))]) (rest := []) (v := bI (isInS v (nI 0) ((nI (c.R 10 2)) - (nI 1)))) hx hb hml hown hC hS hAb (mX7_isIn l v (nI 0) ((nI (c.R 10 2)) - (nI 1)) ) kS_X7_37 ⟨rfl, rfl⟩ ⟨Nat.le_of_ble_eq_true rfl, Nat.le_of_ble_eq_true rfl⟩ rfl hl (Nat.le_of_ble_eq_true rfl) ⟨Nat.zero_le _, Nat.zero_le _⟩ dX7_isNoLayer_11 ?_
  refine lv_bif_ne (tgt := 21) hx hb dX7_isNoLayer_14 (by decide) (fun c_14 => ?_) (fun c_14 => ?_)
  · skip
    refine lv_iconstN hx hb 0 dX7_isNoLayer_21 (by decide) ?_
    exact ro_zretB (b1 := false) hx hb hr hlocks hU (by decide) (by first | rfl | (simp [c_14]; done) | (simp [c_14]; omega) | (simp_all [c_14]; done)) dX7_isNoLayer_22
  · skip
    refine lv_iconstN hx hb 1 dX7_isNoLayer_17 (by decide) ?_
    refine lv_goto (tgt := 22) hx hb dX7_isNoLayer_18 (by decide) ?_
    exact ro_zretB (b1 := true) hx hb hr hlocks hU (by decide) (by first | rfl | (simp [c_14]; done) | (simp [c_14]; omega) | (simp_all [c_14]; done)) dX7_isNoLayer_22
set_option maxHeartbeats 4000000 in
set_option maxRecDepth 100000 in
theorem mX7_isLegal (l : Launch) {E : En} {c : Cy} {th : Int32} {ly : Ly} {L : List Nat} {ad : Nat → Nat → Nat} {H : Heap} (hX : PM E c th ly L ad H) (h i : Nat) (hh : h < c.R 11 1) (hi : i < c.R 11 0) : RoI l yX7_isLegal cX7_isLegal 3 .boolean (rmk 3 0 0 64) [.ref (ad 0 0), .int (nI h), .int (nI i)] E H (bI (permS c h i)) := by
  obtain ⟨hP, hly, hLb, wf, eq0, eq1, eq2⟩ := id hX
  refine ro_of (by decide) (Nat.le_of_ble_eq_true rfl) ?_
  intro p e s m below meth co ls hx hb hr hml hown hlocks hnm hC hU hl
  have hS : va_S noA s.heap H [] := by rw [hU]; exact va_S.rf
  have hAb : ∀ q, noA q → bA E q := fun _ h => h.elim
  have hl : lv_has ls 3 [(0, .ref (ad 0 0)), (1, .int (nI h)), (2, .int (nI i))] := hl
  refine lv_aload_n hx hb dX7_isLegal_0 rfl (lv_at hl 0 rfl) ?_
  refine pi_get hx hb hC hown hP fL_X7_16 0 0 cM_0 (v := .ref (ad 1 0)) rfl dX7_isLegal_1 ?_
  refine lv_iload_n hx hb dX7_isLegal_4 rfl (lv_at hl 2 rfl) ?_
  refine ro_VR (As := [.int (nI i)]) (h0 := ad 1 0) (rest := []) (v := some (ad 3 i)) hx hb hml hown hC hS hAb (mJ_get l hP 0 (cM_1 (by decide)) (fun h9 => cM_2 (by decide) h9) (hly 0 (by decide)) i (by first | assumption | omega)) kV_X7_63 ⟨rfl, rfl⟩ ⟨Nat.le_of_ble_eq_true rfl, Nat.le_of_ble_eq_true rfl⟩ (hP.recv hC (cM_1 (i := 0) (by decide)) rfl) rfl hl (Nat.le_of_ble_eq_true rfl) ⟨Nat.zero_le _, Nat.zero_le _⟩ dX7_isLegal_5 ?_
  have hg_1 : i < c.R 11 0 := by have := wf.sw; omega
  refine pi_cast (nm := "") hx hb hC hown hP 3 i (cM_3 hg_1) rfl wCl_X7_44 dX7_isLegal_8 ?_
  refine lv_aload_n hx hb dX7_isLegal_11 rfl (lv_at hl 0 rfl) ?_
  refine pi_get hx hb hC hown hP fL_X7_60 0 0 cM_0 (v := .int (nI (c.R 0 0))) rfl dX7_isLegal_12 ?_
  have g_2 := wf.nt
  refine ro_V (As := [.int (nI (c.R 0 0))]) (h0 := ad 3 i) (rest := []) (v := pcS c i (nI (c.R 0 0))) hx hb hml hown hC hS hAb (mX6_permitted l hX i (nI (c.R 0 0)) hg_1) kV_X7_67 ⟨rfl, rfl⟩ ⟨Nat.le_of_ble_eq_true rfl, Nat.le_of_ble_eq_true rfl⟩ (hP.recv hC (cM_3 hg_1) rfl) rfl hl (Nat.le_of_ble_eq_true rfl) ⟨Nat.zero_le _, Nat.zero_le _⟩ dX7_isLegal_15 ?_
  refine lv_aload_n hx hb dX7_isLegal_18 rfl (lv_at hl 0 rfl) ?_
  refine pi_get hx hb hC hown hP fL_X7_20 0 0 cM_0 (v := .ref (ad 1 1)) rfl dX7_isLegal_19 ?_
  refine lv_iload_n hx hb dX7_isLegal_22 rfl (lv_at hl 1 rfl) ?_
  refine ro_VR (As := [.int (nI h)]) (h0 := ad 1 1) (rest := [.int (pcS c i (nI (c.R 0 0)))]) (v := some (ad 5 h)) hx hb hml hown hC hS hAb (mJ_get l hP 1 (cM_1 (by decide)) (fun h9 => cM_2 (by decide) h9) (hly 1 (by decide)) h (by first | assumption | omega)) kV_X7_63 ⟨rfl, rfl⟩ ⟨Nat.le_of_ble_eq_true rfl, Nat.le_of_ble_eq_true rfl⟩ (hP.recv hC (cM_1 (i := 1) (by decide)) rfl) rfl hl (Nat.le_of_ble_eq_true rfl) ⟨Nat.zero_le _, Nat.zero_le _⟩ dX7_isLegal_23 ?_
  have hg_3 : h < c.R 11 1 := by have := wf.sh'; omega
  refine pi_cast (nm := "") hx hb hC hown hP 5 h (cM_5 hg_3) rfl wCl_X7_53 dX7_isLegal_26 ?_
  refine pi_get hx hb hC hown hP fL_X7_83 5 h (cM_5 hg_3) (v := .int (c.I 8 h)) rfl dX7_isLegal_29 ?_
  refine lv_icmp_ne (tgt := 39) hx hb dX7_isLegal_32 (by decide) (fun c_32 => ?_) (fun c_32 => ?_)
  · skip
    refine lv_iconstN hx hb 0 dX7_isLegal_39 (by decide) ?_
    exact ro_zretB (b1 := false) hx hb hr hlocks hU (by decide) (by first | rfl | (simp [permS, c_32]; done) | (simp [permS, c_32]; omega) | (simp_all [permS, c_32]; done)) dX7_isLegal_40
  · skip
    refine lv_iconstN hx hb 1 dX7_isLegal_35 (by decide) ?_
    refine lv_goto (tgt := 40) hx hb dX7_isLegal_36 (by decide) ?_
    exact ro_zretB (b1 := true) hx hb hr hlocks hU (by decide) (by first | rfl | (simp [permS, c_32]; done) | (simp [permS, c_32]; omega) | (simp_all [permS, c_32]; done)) dX7_isLegal_40
set_option maxHeartbeats 4000000 in
set_option maxRecDepth 100000 in
theorem mX7_isWrong (l : Launch) {E : En} {c : Cy} {th : Int32} {ly : Ly} {L : List Nat} {ad : Nat → Nat → Nat} {H : Heap} (hX : PM E c th ly L ad H) (h kd : Nat) (lg : Bool) (j : Nat) (hh : h < c.R 11 1) (hkd : kd < 4) (hj : j < c.R 11 2) : RoI l yX7_isWrong cX7_isWrong 5 .boolean (rmk 3 0 0 64) [.ref (ad 0 0), .int (nI h), .int (nI kd), .int (bI lg), .ref (ad 7 j)] E H (bI (iswL c h j kd lg)) := by
  obtain ⟨hP, hly, hLb, wf, eq0, eq1, eq2⟩ := id hX
  refine ro_of (by decide) (Nat.le_of_ble_eq_true rfl) ?_
  intro p e s m below meth co ls hx hb hr hml hown hlocks hnm hC hU hl
  have hS : va_S noA s.heap H [] := by rw [hU]; exact va_S.rf
  have hAb : ∀ q, noA q → bA E q := fun _ h => h.elim
  have hl : lv_has ls 5 [(0, .ref (ad 0 0)), (1, .int (nI h)), (2, .int (nI kd)), (3, .int (bI lg)), (4, .ref (ad 7 j))] := hl
  have gh := wf.nh
  refine lv_aload hx hb dX7_isWrong_0 (lv_at hl 4 rfl) ?_
  refine pi_get hx hb hC hown hP fL_X7_84 7 j (cM_7 hj) (v := .int (nI (c.R 5 j))) rfl dX7_isWrong_2 ?_
  have g_1 := wf.lh hj
  refine lv_iload_n hx hb dX7_isWrong_5 rfl (lv_at hl 1 rfl) ?_
  refine lv_icmpN_ne (tgt := 11) hx hb dX7_isWrong_6 (by decide) (by omega) (by omega) (fun c_6 => ?_) (fun c_6 => ?_)
  · skip
    refine lv_aload hx hb dX7_isWrong_11 (lv_at hl 4 rfl) ?_
    refine pi_get hx hb hC hown hP fL_X7_89 7 j (cM_7 hj) (v := .int (bI (c.B 3 j))) rfl dX7_isWrong_13 ?_
    refine lv_bif_eq (tgt := 21) hx hb dX7_isWrong_16 (by decide) (fun c_16 => ?_) (fun c_16 => ?_)
    · skip
      refine lv_aload_n hx hb dX7_isWrong_21 rfl (lv_at hl 0 rfl) ?_
      refine pi_get hx hb hC hown hP fL_X7_20 0 0 cM_0 (v := .ref (ad 1 1)) rfl dX7_isWrong_22 ?_
      refine lv_aload hx hb dX7_isWrong_25 (lv_at hl 4 rfl) ?_
      refine pi_get hx hb hC hown hP fL_X7_84 7 j (cM_7 hj) (v := .int (nI (c.R 5 j))) rfl dX7_isWrong_27 ?_
      refine ro_VR (As := [.int (nI (c.R 5 j))]) (h0 := ad 1 1) (rest := []) (v := some (ad 5 (c.R 5 j))) hx hb hml hown hC hS hAb (mJ_get l hP 1 (cM_1 (by decide)) (fun h9 => cM_2 (by decide) h9) (hly 1 (by decide)) (c.R 5 j) (by first | assumption | omega)) kV_X7_63 ⟨rfl, rfl⟩ ⟨Nat.le_of_ble_eq_true rfl, Nat.le_of_ble_eq_true rfl⟩ (hP.recv hC (cM_1 (i := 1) (by decide)) rfl) rfl hl (Nat.le_of_ble_eq_true rfl) ⟨Nat.zero_le _, Nat.zero_le _⟩ dX7_isWrong_30 ?_
      have hg_2 : c.R 5 j < c.R 11 1 := by have := wf.sh'; omega
      refine pi_cast (nm := "") hx hb hC hown hP 5 (c.R 5 j) (cM_5 hg_2) rfl wCl_X7_53 dX7_isWrong_33 ?_
      refine pi_get hx hb hC hown hP fL_X7_83 5 (c.R 5 j) (cM_5 hg_2) (v := .int (c.I 8 (c.R 5 j))) rfl dX7_isWrong_36 ?_
      refine lv_aload_n hx hb dX7_isWrong_39 rfl (lv_at hl 0 rfl) ?_
      refine pi_get hx hb hC hown hP fL_X7_20 0 0 cM_0 (v := .ref (ad 1 1)) rfl dX7_isWrong_40 ?_
      refine lv_iload_n hx hb dX7_isWrong_43 rfl (lv_at hl 1 rfl) ?_
      refine ro_VR (As := [.int (nI h)]) (h0 := ad 1 1) (rest := [.int (c.I 8 (c.R 5 j))]) (v := some (ad 5 h)) hx hb hml hown hC hS hAb (mJ_get l hP 1 (cM_1 (by decide)) (fun h9 => cM_2 (by decide) h9) (hly 1 (by decide)) h (by first | assumption | omega)) kV_X7_63 ⟨rfl, rfl⟩ ⟨Nat.le_of_ble_eq_true rfl, Nat.le_of_ble_eq_true rfl⟩ (hP.recv hC (cM_1 (i := 1) (by decide)) rfl) rfl hl (Nat.le_of_ble_eq_true rfl) ⟨Nat.zero_le _, Nat.zero_le _⟩ dX7_isWrong_44 ?_
      have hg_3 : h < c.R 11 1 := by have := wf.sh'; omega
      refine pi_cast (nm := "") hx hb hC hown hP 5 h (cM_5 hg_3) rfl wCl_X7_53 dX7_isWrong_47 ?_
      refine pi_get hx hb hC hown hP fL_X7_83 5 h (cM_5 hg_3) (v := .int (c.I 8 h)) rfl dX7_isWrong_50 ?_
      refine lv_icmp_eq (tgt := 88) hx hb dX7_isWrong_53 (by decide) (fun c_53 => ?_) (fun c_53 => ?_)
      · skip
        refine lv_iconstN hx hb 0 dX7_isWrong_88 (by decide) ?_
        exact ro_zretB (b1 := false) hx hb hr hlocks hU (by decide) (by first | rfl | (simp [iswL, c_6, c_16, c_53]; done) | (simp [iswL, c_6, c_16, c_53]; omega) | (simp_all [iswL, c_6, c_16, c_53]; done)) dX7_isWrong_89
      · skip
        refine lv_iload_n hx hb dX7_isWrong_56 rfl (lv_at hl 2 rfl) ?_
        refine lv_aload hx hb dX7_isWrong_57 (lv_at hl 4 rfl) ?_
        refine pi_get hx hb hC hown hP fL_X7_93 7 j (cM_7 hj) (v := .int (nI (c.R 9 j))) rfl dX7_isWrong_59 ?_
        have g_4 := wf.lk hj
        refine lv_icmpN_gt (tgt := 88) hx hb dX7_isWrong_62 (by decide) (by omega) (by omega) (fun c_62 => ?_) (fun c_62 => ?_)
        · skip
          refine lv_iconstN hx hb 0 dX7_isWrong_88 (by decide) ?_
          exact ro_zretB (b1 := false) hx hb hr hlocks hU (by decide) (by first | rfl | (simp [iswL, c_6, c_16, c_53, c_62]; done) | (simp [iswL, c_6, c_16, c_53, c_62]; omega) | (simp_all [iswL, c_6, c_16, c_53, c_62]; done)) dX7_isWrong_89
        · skip
          refine lv_aload_n hx hb dX7_isWrong_65 rfl (lv_at hl 0 rfl) ?_
          refine pi_get hx hb hC hown hP fL_X7_60 0 0 cM_0 (v := .int (nI (c.R 0 0))) rfl dX7_isWrong_66 ?_
          have g_5 := wf.nt
          refine lv_aload hx hb dX7_isWrong_69 (lv_at hl 4 rfl) ?_
          refine pi_get hx hb hC hown hP fL_X7_96 7 j (cM_7 hj) (v := .int (c.I 16 j)) rfl dX7_isWrong_71 ?_
          refine lv_isub hx hb dX7_isWrong_74 ?_
          refine lv_bipushN hx hb 20 dX7_isWrong_75 (by decide) ?_
          refine lv_icmp_ge (tgt := 88) hx hb dX7_isWrong_77 (by decide) (fun c_77 => ?_) (fun c_77 => ?_)
          · skip
            have c_77 := Int32.not_lt.mpr c_77
            refine lv_iconstN hx hb 0 dX7_isWrong_88 (by decide) ?_
            exact ro_zretB (b1 := false) hx hb hr hlocks hU (by decide) (by first | rfl | (simp [iswL, c_6, c_16, c_53, c_62, c_77]; done) | (simp [iswL, c_6, c_16, c_53, c_62, c_77]; omega) | (simp_all [iswL, c_6, c_16, c_53, c_62, c_77]; done)) dX7_isWrong_89
          · skip
            have c_77 := Int32.not_le.mp c_77
            refine lv_iload_n hx hb dX7_isWrong_80 rfl (lv_at hl 3 rfl) ?_
            refine lv_bif_ne (tgt := 88) hx hb dX7_isWrong_81 (by decide) (fun c_81 => ?_) (fun c_81 => ?_)
            · skip
              refine lv_iconstN hx hb 0 dX7_isWrong_88 (by decide) ?_
              exact ro_zretB (b1 := false) hx hb hr hlocks hU (by decide) (by first | rfl | (simp [iswL, c_6, c_16, c_53, c_62, c_77, c_81]; done) | (simp [iswL, c_6, c_16, c_53, c_62, c_77, c_81]; omega) | (simp_all [iswL, c_6, c_16, c_53, c_62, c_77, c_81]; done)) dX7_isWrong_89
            · skip
              refine lv_iconstN hx hb 1 dX7_isWrong_84 (by decide) ?_
              refine lv_goto (tgt := 89) hx hb dX7_isWrong_85 (by decide) ?_
              exact ro_zretB (b1 := true) hx hb hr hlocks hU (by decide) (by first | rfl | (simp [iswL, c_6, c_16, c_53, c_62, c_77, c_81]; done) | (simp [iswL, c_6, c_16, c_53, c_62, c_77, c_81]; omega) | (simp_all [iswL, c_6, c_16, c_53, c_62, c_77, c_81]; done)) dX7_isWrong_89
    · skip
      refine lv_iconstN hx hb 1 dX7_isWrong_19 (by decide) ?_
      exact ro_zretB (b1 := true) hx hb hr hlocks hU (by decide) (by first | rfl | (simp [iswL, c_6, c_16]; done) | (simp [iswL, c_6, c_16]; omega) | (simp_all [iswL, c_6, c_16]; done)) dX7_isWrong_20
  · skip
    refine lv_iconstN hx hb 0 dX7_isWrong_9 (by decide) ?_
    exact ro_zretB (b1 := false) hx hb hr hlocks hU (by decide) (by first | rfl | (simp [iswL, c_6]; done) | (simp [iswL, c_6]; omega) | (simp_all [iswL, c_6]; done)) dX7_isWrong_10
set_option maxHeartbeats 4000000 in
set_option maxRecDepth 100000 in
theorem mX7_isNew (l : Launch) {E : En} {c : Cy} {th : Int32} {ly : Ly} {L : List Nat} {ad : Nat → Nat → Nat} {H : Heap} (hX : PM E c th ly L ad H) (i f k : Nat) (hi : i < c.R 11 0) (hk : k < c.R 1 i) (hf : f ≤ k) : RoI l yX7_isNew cX7_isNew 4 .boolean (rmk 0 0 0 0) [.ref (ad 4 i), .int (nI f), .int (nI k)] E H (bI (newS c i f k)) := by
  obtain ⟨hP, hly, hLb, wf, eq0, eq1, eq2⟩ := id hX
  refine ro_of (by decide) (Nat.le_of_ble_eq_true rfl) ?_
  intro p e s m below meth co ls hx hb hr hml hown hlocks hnm hC hU hl
  have hS : va_S noA s.heap H [] := by rw [hU]; exact va_S.rf
  have hAb : ∀ q, noA q → bA E q := fun _ h => h.elim
  have hl : lv_has ls 4 [(0, .ref (ad 4 i)), (1, .int (nI f)), (2, .int (nI k))] := hl
  have gw := wf.wd hi
  refine lv_iload_n hx hb dX7_isNew_0 rfl (lv_at hl 1 rfl) ?_
  refine lv_istore_n (lv' := [(3, .int (nI f)), (0, .ref (ad 4 i)), (1, .int (nI f)), (2, .int (nI k))]) hx hb dX7_isNew_1 rfl hl (by decide) rfl (fun ls hl => ?_)
  have lp2 : ∀ fu : Nat, ∀ (z : Nat), z ≤ k → anyS (fun z => decide (shI c i z = shI c i k)) f (k - f) = anyS (fun z => decide (shI c i z = shI c i k)) z (k - z) → k - z < fu → ∀ ls : Array Slot, lv_has ls 4 [(0, .ref (ad 4 i)), (1, .int (nI f)), (2, .int (nI k)), (3, .int (nI z))] → W p l e (rmk 0 0 0 0) s m ([.ref (ad 4 i), .int (nI f), .int (nI k)] : List Value).toArray below meth co H [] 0 0 (MQ below (QiR (bI (newS c i f k)) H) ([.ref (ad 4 i), .int (nI f), .int (nI k)] : List Value).toArray s 0 0 noA) (F0 m 2 ls []) := by
    intro fu
    induction fu with
    | zero => intro z hz hq hfu; exact absurd hfu (Nat.not_lt_zero _)
    | succ fu ih2 =>
      intro z hz hq hfu ls hl
      refine lv_iload_n hx hb dX7_isNew_2 rfl (lv_at hl 3 rfl) ?_
      refine lv_iload_n hx hb dX7_isNew_3 rfl (lv_at hl 2 rfl) ?_
      refine lv_icmpN_ge (tgt := 24) hx hb dX7_isNew_4 (by decide) (by omega) (by omega) (fun c_4 => ?_) (fun c_4 => ?_)
      · skip
        refine lv_aload_n hx hb dX7_isNew_24 rfl (lv_at hl 0 rfl) ?_
        refine lv_iload_n hx hb dX7_isNew_25 rfl (lv_at hl 2 rfl) ?_
        refine pi_iald hx hb hC hP 4 i (cM_4 hi) (j := k) (by first | assumption | omega) (by omega) dX7_isNew_26 ?_
        refine lv_iconst (v := -1) hx hb dX7_isNew_27 (by decide) ?_
        refine lv_icmp_eq (tgt := 35) hx hb dX7_isNew_28 (by decide) (fun c_28 => ?_) (fun c_28 => ?_)
        · skip
          refine lv_iconstN hx hb 0 dX7_isNew_35 (by decide) ?_
          exact ro_zretB (b1 := false) hx hb hr hlocks hU (by decide) (by unfold newS; rw [hq]; first | (rw [anyS_t (P := fun z => decide (shI c i z = shI c i k)) (by omega) (by simp [c_4, c_28])]; rfl) | (rw [anyS_0 (by omega)]; simp [c_4, c_28])) dX7_isNew_36
        · skip
          refine lv_iconstN hx hb 1 dX7_isNew_31 (by decide) ?_
          refine lv_goto (tgt := 36) hx hb dX7_isNew_32 (by decide) ?_
          exact ro_zretB (b1 := true) hx hb hr hlocks hU (by decide) (by unfold newS; rw [hq]; first | (rw [anyS_t (P := fun z => decide (shI c i z = shI c i k)) (by omega) (by simp [c_4, c_28])]; rfl) | (rw [anyS_0 (by omega)]; simp [c_4, c_28])) dX7_isNew_36
      · skip
        refine lv_aload_n hx hb dX7_isNew_7 rfl (lv_at hl 0 rfl) ?_
        refine lv_iload_n hx hb dX7_isNew_8 rfl (lv_at hl 3 rfl) ?_
        refine pi_iald hx hb hC hP 4 i (cM_4 hi) (j := z) (by first | assumption | omega) (by omega) dX7_isNew_9 ?_
        refine lv_aload_n hx hb dX7_isNew_10 rfl (lv_at hl 0 rfl) ?_
        refine lv_iload_n hx hb dX7_isNew_11 rfl (lv_at hl 2 rfl) ?_
        refine pi_iald hx hb hC hP 4 i (cM_4 hi) (j := k) (by first | assumption | omega) (by omega) dX7_isNew_12 ?_
        refine lv_icmp_ne (tgt := 18) hx hb dX7_isNew_13 (by decide) (fun c_13 => ?_) (fun c_13 => ?_)
        · skip
          refine lv_iincN (v := 1) (lv' := [(3, .int (nI (z + 1))), (0, .ref (ad 4 i)), (1, .int (nI f)), (2, .int (nI k))]) hx hb dX7_isNew_18 hl (k := 3) rfl (by decide) (by decide) rfl (fun ls hl => ?_)
          refine lv_goto (tgt := 2) hx hb dX7_isNew_21 (by decide) ?_
          exact ih2 (z + 1) (by first | rfl | assumption | omega | (simp [c_4, c_13]; done) | (simp_all [c_4, c_13]; done)) (hq.trans (anyS_f (P := fun z => decide (shI c i z = shI c i k)) (by omega) (by simp [c_4, c_13]))) (by omega) _ (lv_sub hl [1, 2, 3, 0] rfl)
        · skip
          refine lv_iconstN hx hb 0 dX7_isNew_16 (by decide) ?_
          exact ro_zretB (b1 := false) hx hb hr hlocks hU (by decide) (by unfold newS; rw [hq]; first | (rw [anyS_t (P := fun z => decide (shI c i z = shI c i k)) (by omega) (by simp [c_4, c_13])]; rfl) | (rw [anyS_0 (by omega)]; simp [c_4, c_13])) dX7_isNew_17
  exact lp2 (k - f + 1) f (by first | rfl | assumption | omega | (simp []; done) | (simp_all []; done)) (rfl) (Nat.lt_succ_self _) _ (lv_sub hl [1, 2, 3, 0] rfl)
set_option maxHeartbeats 4000000 in
set_option maxRecDepth 100000 in
theorem mX7_wrongsOf (l : Launch) {E : En} {c : Cy} {th : Int32} {ly : Ly} {L : List Nat} {ad : Nat → Nat → Nat} {H : Heap} (hX : PM E c th ly L ad H) (h i f w kd : Nat) (hh : h < c.R 11 1) (hi : i < c.R 11 0) (hw : f + w ≤ c.R 1 i) (hkd : kd < 4) : RoI l yX7_wrongsOf cX7_wrongsOf 10 .int (rmk 4 0 0 88) [.ref (ad 0 0), .int (nI h), .int (nI i), .int (nI f), .int (nI w), .int (nI kd)] E H (nI (cwrS c h i f w kd)) := by
  obtain ⟨hP, hly, hLb, wf, eq0, eq1, eq2⟩ := id hX
  refine ro_of (by decide) (Nat.le_of_ble_eq_true rfl) ?_
  intro p e s m below meth co ls hx hb hr hml hown hlocks hnm hC hU hl
  have hS : va_S noA s.heap H [] := by rw [hU]; exact va_S.rf
  have hAb : ∀ q, noA q → bA E q := fun _ h => h.elim
  have hl : lv_has ls 10 [(0, .ref (ad 0 0)), (1, .int (nI h)), (2, .int (nI i)), (3, .int (nI f)), (4, .int (nI w)), (5, .int (nI kd))] := hl
  have gw := wf.wd hi
  refine lv_aload_n hx hb dX7_wrongsOf_0 rfl (lv_at hl 0 rfl) ?_
  refine pi_get hx hb hC hown hP fL_X7_16 0 0 cM_0 (v := .ref (ad 1 0)) rfl dX7_wrongsOf_1 ?_
  refine lv_iload_n hx hb dX7_wrongsOf_4 rfl (lv_at hl 2 rfl) ?_
  refine ro_VR (As := [.int (nI i)]) (h0 := ad 1 0) (rest := []) (v := some (ad 3 i)) hx hb hml hown hC hS hAb (mJ_get l hP 0 (cM_1 (by decide)) (fun h9 => cM_2 (by decide) h9) (hly 0 (by decide)) i (by first | assumption | omega)) kV_X7_63 ⟨rfl, rfl⟩ ⟨Nat.le_of_ble_eq_true rfl, Nat.le_of_ble_eq_true rfl⟩ (hP.recv hC (cM_1 (i := 0) (by decide)) rfl) rfl hl (Nat.le_of_ble_eq_true rfl) ⟨Nat.zero_le _, Nat.zero_le _⟩ dX7_wrongsOf_5 ?_
  have hg_1 : i < c.R 11 0 := by have := wf.sw; omega
  refine pi_cast (nm := "") hx hb hC hown hP 3 i (cM_3 hg_1) rfl wCl_X7_44 dX7_wrongsOf_8 ?_
  refine pi_get hx hb hC hown hP fL_X7_97 3 i (cM_3 hg_1) (v := .ref (ad 4 i)) rfl dX7_wrongsOf_11 ?_
  have g_2 := wf.wd hg_1
  refine lv_astore (lv' := [(6, .ref (ad 4 i)), (0, .ref (ad 0 0)), (1, .int (nI h)), (2, .int (nI i)), (3, .int (nI f)), (4, .int (nI w)), (5, .int (nI kd))]) hx hb dX7_wrongsOf_14 hl (by decide) rfl (fun ls hl => ?_)
  refine lv_aload_n hx hb dX7_wrongsOf_16 rfl (lv_at hl 1 rfl) ?_
  refine lv_iload_n hx hb dX7_wrongsOf_17 rfl (lv_at hl 2 rfl) ?_
  refine lv_iload_n hx hb dX7_wrongsOf_18 rfl (lv_at hl 3 rfl) ?_
  refine ro_V (As := [.int (nI h), .int (nI i)]) (h0 := ad 0 0) (rest := []) (v := bI (permS c h i)) hx hb hml hown hC hS hAb (mX7_isLegal l hX h i hh hg_1) kV_X7_101 ⟨rfl, rfl⟩ ⟨Nat.le_of_ble_eq_true rfl, Nat.le_of_ble_eq_true rfl⟩ (hP.recv hC cM_0 rfl) rfl hl (Nat.le_of_ble_eq_true rfl) ⟨Nat.zero_le _, Nat.zero_le _⟩ dX7_wrongsOf_19 ?_
  refine lv_istore (lv' := [(7, .int (bI (permS c h i))), (6, .ref (ad 4 i)), (0, .ref (ad 0 0)), (1, .int (nI h)), (2, .int (nI i)), (3, .int (nI f)), (4, .int (nI w)), (5, .int (nI kd))]) hx hb dX7_wrongsOf_22 hl (by decide) rfl (fun ls hl => ?_)
  refine lv_iconstN hx hb 0 dX7_wrongsOf_24 (by decide) ?_
  refine lv_istore (lv' := [(8, .int (nI 0)), (7, .int (bI (permS c h i))), (6, .ref (ad 4 i)), (0, .ref (ad 0 0)), (1, .int (nI h)), (2, .int (nI i)), (3, .int (nI f)), (4, .int (nI w)), (5, .int (nI kd))]) hx hb dX7_wrongsOf_25 hl (by decide) rfl (fun ls hl => ?_)
  refine lv_iload_n hx hb dX7_wrongsOf_27 rfl (lv_at hl 6 rfl) ?_
  refine lv_istore (lv' := [(9, .int (nI f)), (8, .int (nI 0)), (7, .int (bI (permS c h i))), (6, .ref (ad 4 i)), (0, .ref (ad 0 0)), (1, .int (nI h)), (2, .int (nI i)), (3, .int (nI f)), (4, .int (nI w)), (5, .int (nI kd))]) hx hb dX7_wrongsOf_28 hl (by decide) rfl (fun ls hl => ?_)
  have lp30 : ∀ fu : Nat, ∀ (k a : Nat), f ≤ k → k ≤ f + w → a = cntN (fun q => (waS c h i f (f + q) kd).isSome) (k - f) → f + w - k < fu → ∀ ls : Array Slot, lv_has ls 10 [(0, .ref (ad 0 0)), (1, .int (nI h)), (2, .int (nI i)), (3, .int (nI f)), (4, .int (nI w)), (5, .int (nI kd)), (6, .ref (ad 4 i)), (7, .int (bI (permS c h i))), (8, .int (nI a)), (9, .int (nI k))] → W p l e (rmk 4 0 0 88) s m ([.ref (ad 0 0), .int (nI h), .int (nI i), .int (nI f), .int (nI w), .int (nI kd)] : List Value).toArray below meth co H [] 0 0 (MQ below (QiR (nI (cwrS c h i f w kd)) H) ([.ref (ad 0 0), .int (nI h), .int (nI i), .int (nI f), .int (nI w), .int (nI kd)] : List Value).toArray s 0 0 noA) (F0 m 30 ls []) := by
    intro fu
    induction fu with
    | zero => intro k a hk hk2 ha hfu; exact absurd hfu (Nat.not_lt_zero _)
    | succ fu ih30 =>
      intro k a hk hk2 ha hfu ls hl
      refine lv_iload hx hb dX7_wrongsOf_30 (lv_at hl 9 rfl) ?_
      refine lv_iload_n hx hb dX7_wrongsOf_32 rfl (lv_at hl 3 rfl) ?_
      refine lv_iload hx hb dX7_wrongsOf_33 (lv_at hl 4 rfl) ?_
      refine lv_iaddN hx hb dX7_wrongsOf_35 ?_
      refine lv_icmpN_ge (tgt := 86) hx hb dX7_wrongsOf_36 (by decide) (by omega) (by omega) (fun c_36 => ?_) (fun c_36 => ?_)
      · skip
        refine lv_iload hx hb dX7_wrongsOf_86 (lv_at hl 8 rfl) ?_
        exact ro_iret (x := nI a) hx hb hr hlocks hU (by rw [ha, show k - f = w by omega]; rfl) dX7_wrongsOf_88
      · skip
        refine lv_aload hx hb dX7_wrongsOf_39 (lv_at hl 6 rfl) ?_
        refine lv_iload_n hx hb dX7_wrongsOf_41 rfl (lv_at hl 3 rfl) ?_
        refine lv_iload hx hb dX7_wrongsOf_42 (lv_at hl 9 rfl) ?_
        refine ro_S (As := [.ref (ad 4 i), .int (nI f), .int (nI k)]) (rest := []) (v := bI (newS c i f k)) hx hb hml hown hC hS hAb (mX7_isNew l hX i f k hg_1 (by first | assumption | omega) (by first | assumption | omega)) kS_X7_105 ⟨rfl, rfl⟩ ⟨Nat.le_of_ble_eq_true rfl, Nat.le_of_ble_eq_true rfl⟩ rfl hl (Nat.le_of_ble_eq_true rfl) ⟨Nat.zero_le _, Nat.zero_le _⟩ dX7_wrongsOf_44 ?_
        refine lv_bif_eq (tgt := 80) hx hb dX7_wrongsOf_47 (by decide) (fun c_47 => ?_) (fun c_47 => ?_)
        · skip
          refine lv_iincN (v := 1) (lv' := [(9, .int (nI (k + 1))), (0, .ref (ad 0 0)), (1, .int (nI h)), (2, .int (nI i)), (3, .int (nI f)), (4, .int (nI w)), (5, .int (nI kd)), (6, .ref (ad 4 i)), (7, .int (bI (permS c h i))), (8, .int (nI a))]) hx hb dX7_wrongsOf_80 hl (k := 9) rfl (by decide) (by decide) rfl (fun ls hl => ?_)
          refine lv_goto (tgt := 30) hx hb dX7_wrongsOf_83 (by decide) ?_
          exact ih30 (k + 1) a (by first | rfl | assumption | omega | (simp [ha, c_36, c_47]; done) | (simp_all [ha, c_36, c_47]; done)) (by first | rfl | assumption | omega | (simp [ha, c_36, c_47]; done) | (simp_all [ha, c_36, c_47]; done)) (by first | exact ha.trans (cntR_f (P := fun z => (waS c h i f z kd).isSome) hk (wa_f wf hi (by omega) hk c_47)).symm | exact (congrArg (· + 1) ha).trans (cntR_t (P := fun z => (waS c h i f z kd).isSome) hk ((wa_s wf hi (by omega) hk d_64 c_47).trans c_74)).symm | exact ha.trans (cntR_f (P := fun z => (waS c h i f z kd).isSome) hk ((wa_s wf hi (by omega) hk d_64 c_47).trans c_74)).symm) (by omega) _ (lv_sub hl [1, 2, 3, 4, 5, 6, 7, 8, 9, 0] rfl)
        · skip
          refine lv_aload_n hx hb dX7_wrongsOf_50 rfl (lv_at hl 0 rfl) ?_
          refine lv_iload_n hx hb dX7_wrongsOf_51 rfl (lv_at hl 1 rfl) ?_
          refine lv_iload hx hb dX7_wrongsOf_52 (lv_at hl 5 rfl) ?_
          refine lv_iload hx hb dX7_wrongsOf_54 (lv_at hl 7 rfl) ?_
          refine lv_aload_n hx hb dX7_wrongsOf_56 rfl (lv_at hl 0 rfl) ?_
          refine pi_get hx hb hC hown hP fL_X7_23 0 0 cM_0 (v := .ref (ad 1 2)) rfl dX7_wrongsOf_57 ?_
          refine lv_aload hx hb dX7_wrongsOf_60 (lv_at hl 6 rfl) ?_
          refine lv_iload hx hb dX7_wrongsOf_62 (lv_at hl 9 rfl) ?_
          refine pi_iald hx hb hC hP 4 i (cM_4 hg_1) (j := k) (by first | assumption | omega) (by omega) dX7_wrongsOf_64 ?_
          rcases d_64 : c.sh i k with _ | j_64
          · skip
            have sd_64 : shI c i k = -1 := shI_n d_64
            rw [sd_64]
            exact absurd c_47 (by simp [newS, sd_64])
          · skip
            have sd_64 : shI c i k = nI j_64 := shI_s d_64
            rw [sd_64]
            have hj_64 : j_64 < c.R 11 2 := wf.sj hg_1 (by first | assumption | omega) d_64
            have g_3 := wf.nl
            refine ro_VR (As := [.int (nI j_64)]) (h0 := ad 1 2) (rest := [.int (bI (permS c h i)), .int (nI kd), .int (nI h), .ref (ad 0 0)]) (v := some (ad 7 j_64)) hx hb hml hown hC hS hAb (mJ_get l hP 2 (cM_1 (by decide)) (fun h9 => cM_2 (by decide) h9) (hly 2 (by decide)) j_64 (by first | assumption | omega)) kV_X7_63 ⟨rfl, rfl⟩ ⟨Nat.le_of_ble_eq_true rfl, Nat.le_of_ble_eq_true rfl⟩ (hP.recv hC (cM_1 (i := 2) (by decide)) rfl) rfl hl (Nat.le_of_ble_eq_true rfl) ⟨Nat.zero_le _, Nat.zero_le _⟩ dX7_wrongsOf_65 ?_
            have hg_4 : j_64 < c.R 11 2 := by have := wf.sl; omega
            refine pi_cast (nm := "") hx hb hC hown hP 7 j_64 (cM_7 hg_4) rfl wCl_X7_85 dX7_wrongsOf_68 ?_
            refine ro_V (As := [.int (nI h), .int (nI kd), .int (bI (permS c h i)), .ref (ad 7 j_64)]) (h0 := ad 0 0) (rest := []) (v := bI (iswL c h j_64 kd (permS c h i))) hx hb hml hown hC hS hAb (mX7_isWrong l hX h kd (permS c h i) j_64 hh (by first | assumption | omega) hg_4) kV_X7_109 ⟨rfl, rfl⟩ ⟨Nat.le_of_ble_eq_true rfl, Nat.le_of_ble_eq_true rfl⟩ (hP.recv hC cM_0 rfl) rfl hl (Nat.le_of_ble_eq_true rfl) ⟨Nat.zero_le _, Nat.zero_le _⟩ dX7_wrongsOf_71 ?_
            refine lv_bif_eq (tgt := 80) hx hb dX7_wrongsOf_74 (by decide) (fun c_74 => ?_) (fun c_74 => ?_)
            · skip
              refine lv_iincN (v := 1) (lv' := [(9, .int (nI (k + 1))), (0, .ref (ad 0 0)), (1, .int (nI h)), (2, .int (nI i)), (3, .int (nI f)), (4, .int (nI w)), (5, .int (nI kd)), (6, .ref (ad 4 i)), (7, .int (bI (permS c h i))), (8, .int (nI a))]) hx hb dX7_wrongsOf_80 hl (k := 9) rfl (by decide) (by decide) rfl (fun ls hl => ?_)
              refine lv_goto (tgt := 30) hx hb dX7_wrongsOf_83 (by decide) ?_
              exact ih30 (k + 1) a (by first | rfl | assumption | omega | (simp [ha, c_36, c_47, d_64, c_74]; done) | (simp_all [ha, c_36, c_47, d_64, c_74]; done)) (by first | rfl | assumption | omega | (simp [ha, c_36, c_47, d_64, c_74]; done) | (simp_all [ha, c_36, c_47, d_64, c_74]; done)) (by first | exact ha.trans (cntR_f (P := fun z => (waS c h i f z kd).isSome) hk (wa_f wf hi (by omega) hk c_47)).symm | exact (congrArg (· + 1) ha).trans (cntR_t (P := fun z => (waS c h i f z kd).isSome) hk ((wa_s wf hi (by omega) hk d_64 c_47).trans c_74)).symm | exact ha.trans (cntR_f (P := fun z => (waS c h i f z kd).isSome) hk ((wa_s wf hi (by omega) hk d_64 c_47).trans c_74)).symm) (by omega) _ (lv_sub hl [1, 2, 3, 4, 5, 6, 7, 8, 9, 0] rfl)
            · skip
              refine lv_iincN (v := 1) (lv' := [(8, .int (nI (a + 1))), (0, .ref (ad 0 0)), (1, .int (nI h)), (2, .int (nI i)), (3, .int (nI f)), (4, .int (nI w)), (5, .int (nI kd)), (6, .ref (ad 4 i)), (7, .int (bI (permS c h i))), (9, .int (nI k))]) hx hb dX7_wrongsOf_77 hl (k := 8) rfl (by decide) (by decide) rfl (fun ls hl => ?_)
              refine lv_iincN (v := 1) (lv' := [(9, .int (nI (k + 1))), (8, .int (nI (a + 1))), (0, .ref (ad 0 0)), (1, .int (nI h)), (2, .int (nI i)), (3, .int (nI f)), (4, .int (nI w)), (5, .int (nI kd)), (6, .ref (ad 4 i)), (7, .int (bI (permS c h i)))]) hx hb dX7_wrongsOf_80 hl (k := 9) rfl (by decide) (by decide) rfl (fun ls hl => ?_)
              refine lv_goto (tgt := 30) hx hb dX7_wrongsOf_83 (by decide) ?_
              exact ih30 (k + 1) (a + 1) (by first | rfl | assumption | omega | (simp [ha, c_36, c_47, d_64, c_74]; done) | (simp_all [ha, c_36, c_47, d_64, c_74]; done)) (by first | rfl | assumption | omega | (simp [ha, c_36, c_47, d_64, c_74]; done) | (simp_all [ha, c_36, c_47, d_64, c_74]; done)) (by first | exact ha.trans (cntR_f (P := fun z => (waS c h i f z kd).isSome) hk (wa_f wf hi (by omega) hk c_47)).symm | exact (congrArg (· + 1) ha).trans (cntR_t (P := fun z => (waS c h i f z kd).isSome) hk ((wa_s wf hi (by omega) hk d_64 c_47).trans c_74)).symm | exact ha.trans (cntR_f (P := fun z => (waS c h i f z kd).isSome) hk ((wa_s wf hi (by omega) hk d_64 c_47).trans c_74)).symm) (by omega) _ (lv_sub hl [2, 3, 4, 5, 6, 7, 8, 9, 1, 0] rfl)
  exact lp30 (f + w - f + 1) f 0 (by first | rfl | assumption | omega | (simp []; done) | (simp_all []; done)) (by first | rfl | assumption | omega | (simp []; done) | (simp_all []; done)) (by rw [Nat.sub_self]; rfl) (Nat.lt_succ_self _) _ (lv_sub hl [4, 5, 6, 7, 8, 9, 3, 2, 1, 0] rfl)
set_option maxHeartbeats 4000000 in
set_option maxRecDepth 100000 in
theorem mX7_isNoPlace (l : Launch) {E : En} {c : Cy} {th : Int32} {ly : Ly} {L : List Nat} {ad : Nat → Nat → Nat} {H : Heap} (hX : PM E c th ly L ad H) (i : Nat) (f w : Int32) (hi : i < c.R 11 0) : RoI l yX7_isNoPlace cX7_isNoPlace 4 .boolean (rmk 3 0 0 64) [.ref (ad 0 0), .int (nI i), .int f, .int w] E H (bI (npS c i f w)) := by
  obtain ⟨hP, hly, hLb, wf, eq0, eq1, eq2⟩ := id hX
  refine ro_of (by decide) (Nat.le_of_ble_eq_true rfl) ?_
  intro p e s m below meth co ls hx hb hr hml hown hlocks hnm hC hU hl
  have hS : va_S noA s.heap H [] := by rw [hU]; exact va_S.rf
  have hAb : ∀ q, noA q → bA E q := fun _ h => h.elim
  have hl : lv_has ls 4 [(0, .ref (ad 0 0)), (1, .int (nI i)), (2, .int f), (3, .int w)] := hl
  refine lv_iload_n hx hb dX7_isNoPlace_0 rfl (lv_at hl 2 rfl) ?_
  refine lv_if_lt (tgt := 49) hx hb dX7_isNoPlace_1 (by decide) (fun c_1 => ?_) (fun c_1 => ?_)
  · skip
    refine lv_iconstN hx hb 1 dX7_isNoPlace_49 (by decide) ?_
    refine lv_goto (tgt := 54) hx hb dX7_isNoPlace_50 (by decide) ?_
    exact ro_zretB (b1 := true) hx hb hr hlocks hU (by decide) (by first | rfl | (simp [npS, c_1]; done) | (simp [npS, c_1]; omega) | (simp_all [npS, c_1]; done)) dX7_isNoPlace_54
  · skip
    refine lv_iload_n hx hb dX7_isNoPlace_4 rfl (lv_at hl 3 rfl) ?_
    refine lv_iconstN hx hb 1 dX7_isNoPlace_5 (by decide) ?_
    refine lv_icmp_lt (tgt := 49) hx hb dX7_isNoPlace_6 (by decide) (fun c_6 => ?_) (fun c_6 => ?_)
    · skip
      refine lv_iconstN hx hb 1 dX7_isNoPlace_49 (by decide) ?_
      refine lv_goto (tgt := 54) hx hb dX7_isNoPlace_50 (by decide) ?_
      exact ro_zretB (b1 := true) hx hb hr hlocks hU (by decide) (by first | rfl | (simp [npS, c_1, c_6]; done) | (simp [npS, c_1, c_6]; omega) | (simp_all [npS, c_1, c_6]; done)) dX7_isNoPlace_54
    · skip
      refine lv_iload_n hx hb dX7_isNoPlace_9 rfl (lv_at hl 3 rfl) ?_
      refine lv_aload_n hx hb dX7_isNoPlace_10 rfl (lv_at hl 0 rfl) ?_
      refine pi_get hx hb hC hown hP fL_X7_16 0 0 cM_0 (v := .ref (ad 1 0)) rfl dX7_isNoPlace_11 ?_
      refine lv_iload_n hx hb dX7_isNoPlace_14 rfl (lv_at hl 1 rfl) ?_
      refine ro_VR (As := [.int (nI i)]) (h0 := ad 1 0) (rest := [.int w]) (v := some (ad 3 i)) hx hb hml hown hC hS hAb (mJ_get l hP 0 (cM_1 (by decide)) (fun h9 => cM_2 (by decide) h9) (hly 0 (by decide)) i (by first | assumption | omega)) kV_X7_63 ⟨rfl, rfl⟩ ⟨Nat.le_of_ble_eq_true rfl, Nat.le_of_ble_eq_true rfl⟩ (hP.recv hC (cM_1 (i := 0) (by decide)) rfl) rfl hl (Nat.le_of_ble_eq_true rfl) ⟨Nat.zero_le _, Nat.zero_le _⟩ dX7_isNoPlace_15 ?_
      have hg_1 : i < c.R 11 0 := by have := wf.sw; omega
      refine pi_cast (nm := "") hx hb hC hown hP 3 i (cM_3 hg_1) rfl wCl_X7_44 dX7_isNoPlace_18 ?_
      refine pi_get hx hb hC hown hP fL_X7_97 3 i (cM_3 hg_1) (v := .ref (ad 4 i)) rfl dX7_isNoPlace_21 ?_
      have g_2 := wf.wd hg_1
      refine pi_alen hx hb hC hP 4 i 0 rfl (cM_4 hg_1) dX7_isNoPlace_24 ?_
      have g_3 := wf.wd hg_1
      refine lv_icmp_gt (tgt := 49) hx hb dX7_isNoPlace_25 (by decide) (fun c_25 => ?_) (fun c_25 => ?_)
      · skip
        refine lv_iconstN hx hb 1 dX7_isNoPlace_49 (by decide) ?_
        refine lv_goto (tgt := 54) hx hb dX7_isNoPlace_50 (by decide) ?_
        exact ro_zretB (b1 := true) hx hb hr hlocks hU (by decide) (by first | rfl | (simp [npS, c_1, c_6, c_25]; done) | (simp [npS, c_1, c_6, c_25]; omega) | (simp_all [npS, c_1, c_6, c_25]; done)) dX7_isNoPlace_54
      · skip
        refine lv_iload_n hx hb dX7_isNoPlace_28 rfl (lv_at hl 2 rfl) ?_
        refine lv_aload_n hx hb dX7_isNoPlace_29 rfl (lv_at hl 0 rfl) ?_
        refine pi_get hx hb hC hown hP fL_X7_16 0 0 cM_0 (v := .ref (ad 1 0)) rfl dX7_isNoPlace_30 ?_
        refine lv_iload_n hx hb dX7_isNoPlace_33 rfl (lv_at hl 1 rfl) ?_
        refine ro_VR (As := [.int (nI i)]) (h0 := ad 1 0) (rest := [.int f]) (v := some (ad 3 i)) hx hb hml hown hC hS hAb (mJ_get l hP 0 (cM_1 (by decide)) (fun h9 => cM_2 (by decide) h9) (hly 0 (by decide)) i (by first | assumption | omega)) kV_X7_63 ⟨rfl, rfl⟩ ⟨Nat.le_of_ble_eq_true rfl, Nat.le_of_ble_eq_true rfl⟩ (hP.recv hC (cM_1 (i := 0) (by decide)) rfl) rfl hl (Nat.le_of_ble_eq_true rfl) ⟨Nat.zero_le _, Nat.zero_le _⟩ dX7_isNoPlace_34 ?_
        have hg_4 : i < c.R 11 0 := by have := wf.sw; omega
        refine pi_cast (nm := "") hx hb hC hown hP 3 i (cM_3 hg_4) rfl wCl_X7_44 dX7_isNoPlace_37 ?_
        refine pi_get hx hb hC hown hP fL_X7_97 3 i (cM_3 hg_4) (v := .ref (ad 4 i)) rfl dX7_isNoPlace_40 ?_
        refine pi_alen hx hb hC hP 4 i 0 rfl (cM_4 hg_4) dX7_isNoPlace_43 ?_
        refine lv_iload_n hx hb dX7_isNoPlace_44 rfl (lv_at hl 3 rfl) ?_
        refine lv_isub hx hb dX7_isNoPlace_45 ?_
        refine lv_icmp_le (tgt := 53) hx hb dX7_isNoPlace_46 (by decide) (fun c_46 => ?_) (fun c_46 => ?_)
        · skip
          have c_46 := Int32.not_lt.mpr c_46
          refine lv_iconstN hx hb 0 dX7_isNoPlace_53 (by decide) ?_
          exact ro_zretB (b1 := false) hx hb hr hlocks hU (by decide) (by first | rfl | (simp [npS, c_1, c_6, c_25, c_46]; done) | (simp [npS, c_1, c_6, c_25, c_46]; omega) | (simp_all [npS, c_1, c_6, c_25, c_46]; done)) dX7_isNoPlace_54
        · skip
          have c_46 := Int32.not_le.mp c_46
          refine lv_iconstN hx hb 1 dX7_isNoPlace_49 (by decide) ?_
          refine lv_goto (tgt := 54) hx hb dX7_isNoPlace_50 (by decide) ?_
          exact ro_zretB (b1 := true) hx hb hr hlocks hU (by decide) (by first | rfl | (simp [npS, c_1, c_6, c_25, c_46]; done) | (simp [npS, c_1, c_6, c_25, c_46]; omega) | (simp_all [npS, c_1, c_6, c_25, c_46]; done)) dX7_isNoPlace_54
set_option maxHeartbeats 4000000 in
set_option maxRecDepth 100000 in
theorem mX7_isBuffedn (l : Launch) {E : En} {c : Cy} {th : Int32} {ly : Ly} {L : List Nat} {ad : Nat → Nat → Nat} {H : Heap} (hX : PM E c th ly L ad H) (i : Nat) (hi : i < c.R 11 0) : RoI l yX7_isBuffed cX7_isBuffed 3 .boolean (rmk 0 0 0 0) [.ref (ad 0 0), .int (nI i), .int (-1)] E H (bI false) := by
  obtain ⟨hP, hly, hLb, wf, eq0, eq1, eq2⟩ := id hX
  refine ro_of (by decide) (Nat.le_of_ble_eq_true rfl) ?_
  intro p e s m below meth co ls hx hb hr hml hown hlocks hnm hC hU hl
  have hS : va_S noA s.heap H [] := by rw [hU]; exact va_S.rf
  have hAb : ∀ q, noA q → bA E q := fun _ h => h.elim
  have hl : lv_has ls 3 [(0, .ref (ad 0 0)), (1, .int (nI i)), (2, .int (-1))] := hl
  refine lv_iload_n hx hb dX7_isBuffed_0 rfl (lv_at hl 2 rfl) ?_
  refine lv_iconst (v := -1) hx hb dX7_isBuffed_1 (by decide) ?_
  refine lv_icmp_eq (tgt := 48) hx hb dX7_isBuffed_2 (by decide) (fun c_2 => ?_) (fun c_2 => ?_)
  · skip
    refine lv_iconstN hx hb 0 dX7_isBuffed_48 (by decide) ?_
    exact ro_zretB (b1 := false) hx hb hr hlocks hU (by decide) (by first | rfl | (simp []; done) | (simp []; omega) | (simp_all []; done)) dX7_isBuffed_49
  · skip
    exact absurd rfl c_2
set_option maxHeartbeats 4000000 in
set_option maxRecDepth 100000 in
theorem mX7_isBuffeds (l : Launch) {E : En} {c : Cy} {th : Int32} {ly : Ly} {L : List Nat} {ad : Nat → Nat → Nat} {H : Heap} (hX : PM E c th ly L ad H) (i j : Nat) (hi : i < c.R 11 0) (hj : j < c.R 11 2) : RoI l yX7_isBuffed cX7_isBuffed 3 .boolean (rmk 4 0 0 86) [.ref (ad 0 0), .int (nI i), .int (nI j)] E H (bI (!c.B 1 j || !permS c (c.R 5 j) i)) := by
  obtain ⟨hP, hly, hLb, wf, eq0, eq1, eq2⟩ := id hX
  refine ro_of (by decide) (Nat.le_of_ble_eq_true rfl) ?_
  intro p e s m below meth co ls hx hb hr hml hown hlocks hnm hC hU hl
  have hS : va_S noA s.heap H [] := by rw [hU]; exact va_S.rf
  have hAb : ∀ q, noA q → bA E q := fun _ h => h.elim
  have hl : lv_has ls 3 [(0, .ref (ad 0 0)), (1, .int (nI i)), (2, .int (nI j))] := hl
  have gl := wf.nl
  refine lv_iload_n hx hb dX7_isBuffed_0 rfl (lv_at hl 2 rfl) ?_
  refine lv_iconst (v := -1) hx hb dX7_isBuffed_1 (by decide) ?_
  refine lv_icmp_eq (tgt := 48) hx hb dX7_isBuffed_2 (by decide) (fun c_2 => ?_) (fun c_2 => ?_)
  · skip
    exact absurd c_2 (nI_m1 (by omega))
  · skip
    refine lv_aload_n hx hb dX7_isBuffed_5 rfl (lv_at hl 0 rfl) ?_
    refine pi_get hx hb hC hown hP fL_X7_23 0 0 cM_0 (v := .ref (ad 1 2)) rfl dX7_isBuffed_6 ?_
    refine lv_iload_n hx hb dX7_isBuffed_9 rfl (lv_at hl 2 rfl) ?_
    refine ro_VR (As := [.int (nI j)]) (h0 := ad 1 2) (rest := []) (v := some (ad 7 j)) hx hb hml hown hC hS hAb (mJ_get l hP 2 (cM_1 (by decide)) (fun h9 => cM_2 (by decide) h9) (hly 2 (by decide)) j (by first | assumption | omega)) kV_X7_63 ⟨rfl, rfl⟩ ⟨Nat.le_of_ble_eq_true rfl, Nat.le_of_ble_eq_true rfl⟩ (hP.recv hC (cM_1 (i := 2) (by decide)) rfl) rfl hl (Nat.le_of_ble_eq_true rfl) ⟨Nat.zero_le _, Nat.zero_le _⟩ dX7_isBuffed_10 ?_
    have hg_1 : j < c.R 11 2 := by have := wf.sl; omega
    refine pi_cast (nm := "") hx hb hC hown hP 7 j (cM_7 hg_1) rfl wCl_X7_85 dX7_isBuffed_13 ?_
    refine pi_get hx hb hC hown hP fL_X7_154 7 j (cM_7 hg_1) (v := .int (bI (c.B 1 j))) rfl dX7_isBuffed_16 ?_
    refine lv_bif_eq (tgt := 44) hx hb dX7_isBuffed_19 (by decide) (fun c_19 => ?_) (fun c_19 => ?_)
    · skip
      refine lv_iconstN hx hb 1 dX7_isBuffed_44 (by decide) ?_
      refine lv_goto (tgt := 49) hx hb dX7_isBuffed_45 (by decide) ?_
      exact ro_zretB (b1 := true) hx hb hr hlocks hU (by decide) (by first | rfl | (simp [c_19]; done) | (simp [c_19]; omega) | (simp_all [c_19]; done)) dX7_isBuffed_49
    · skip
      refine lv_aload_n hx hb dX7_isBuffed_22 rfl (lv_at hl 0 rfl) ?_
      refine lv_aload_n hx hb dX7_isBuffed_23 rfl (lv_at hl 0 rfl) ?_
      refine pi_get hx hb hC hown hP fL_X7_23 0 0 cM_0 (v := .ref (ad 1 2)) rfl dX7_isBuffed_24 ?_
      refine lv_iload_n hx hb dX7_isBuffed_27 rfl (lv_at hl 2 rfl) ?_
      refine ro_VR (As := [.int (nI j)]) (h0 := ad 1 2) (rest := [.ref (ad 0 0)]) (v := some (ad 7 j)) hx hb hml hown hC hS hAb (mJ_get l hP 2 (cM_1 (by decide)) (fun h9 => cM_2 (by decide) h9) (hly 2 (by decide)) j (by first | assumption | omega)) kV_X7_63 ⟨rfl, rfl⟩ ⟨Nat.le_of_ble_eq_true rfl, Nat.le_of_ble_eq_true rfl⟩ (hP.recv hC (cM_1 (i := 2) (by decide)) rfl) rfl hl (Nat.le_of_ble_eq_true rfl) ⟨Nat.zero_le _, Nat.zero_le _⟩ dX7_isBuffed_28 ?_
      have hg_2 : j < c.R 11 2 := by have := wf.sl; omega
      refine pi_cast (nm := "") hx hb hC hown hP 7 j (cM_7 hg_2) rfl wCl_X7_85 dX7_isBuffed_31 ?_
      refine pi_get hx hb hC hown hP fL_X7_84 7 j (cM_7 hg_2) (v := .int (nI (c.R 5 j))) rfl dX7_isBuffed_34 ?_
      have g_3 := wf.lh hg_2
      refine lv_iload_n hx hb dX7_isBuffed_37 rfl (lv_at hl 1 rfl) ?_
      refine ro_V (As := [.int (nI (c.R 5 j)), .int (nI i)]) (h0 := ad 0 0) (rest := []) (v := bI (permS c (c.R 5 j) i)) hx hb hml hown hC hS hAb (mX7_isLegal l hX (c.R 5 j) i (by first | assumption | omega) hi) kV_X7_101 ⟨rfl, rfl⟩ ⟨Nat.le_of_ble_eq_true rfl, Nat.le_of_ble_eq_true rfl⟩ (hP.recv hC cM_0 rfl) rfl hl (Nat.le_of_ble_eq_true rfl) ⟨Nat.zero_le _, Nat.zero_le _⟩ dX7_isBuffed_38 ?_
      refine lv_bif_ne (tgt := 48) hx hb dX7_isBuffed_41 (by decide) (fun c_41 => ?_) (fun c_41 => ?_)
      · skip
        refine lv_iconstN hx hb 0 dX7_isBuffed_48 (by decide) ?_
        exact ro_zretB (b1 := false) hx hb hr hlocks hU (by decide) (by first | rfl | (simp [c_19, c_41]; done) | (simp [c_19, c_41]; omega) | (simp_all [c_19, c_41]; done)) dX7_isBuffed_49
      · skip
        refine lv_iconstN hx hb 1 dX7_isBuffed_44 (by decide) ?_
        refine lv_goto (tgt := 49) hx hb dX7_isBuffed_45 (by decide) ?_
        exact ro_zretB (b1 := true) hx hb hr hlocks hU (by decide) (by first | rfl | (simp [c_19, c_41]; done) | (simp [c_19, c_41]; omega) | (simp_all [c_19, c_41]; done)) dX7_isBuffed_49
set_option maxHeartbeats 4000000 in
set_option maxRecDepth 100000 in
theorem mX7_buffs (l : Launch) {E : En} {c : Cy} {th : Int32} {ly : Ly} {L : List Nat} {ad : Nat → Nat → Nat} {H : Heap} (hX : PM E c th ly L ad H) (i : Nat) (hi : i < c.R 11 0) : RoI l yX7_buffs cX7_buffs 7 .int (rmk 5 0 0 108) [.ref (ad 0 0), .int (nI i)] E H (nI (ctbS c i)) := by
  obtain ⟨hP, hly, hLb, wf, eq0, eq1, eq2⟩ := id hX
  refine ro_of (by decide) (Nat.le_of_ble_eq_true rfl) ?_
  intro p e s m below meth co ls hx hb hr hml hown hlocks hnm hC hU hl
  have hS : va_S noA s.heap H [] := by rw [hU]; exact va_S.rf
  have hAb : ∀ q, noA q → bA E q := fun _ h => h.elim
  have hl : lv_has ls 7 [(0, .ref (ad 0 0)), (1, .int (nI i))] := hl
  refine lv_iconstN hx hb 0 dX7_buffs_0 (by decide) ?_
  refine lv_istore_n (lv' := [(2, .int (nI 0)), (0, .ref (ad 0 0)), (1, .int (nI i))]) hx hb dX7_buffs_1 rfl hl (by decide) rfl (fun ls hl => ?_)
  refine lv_aload_n hx hb dX7_buffs_2 rfl (lv_at hl 1 rfl) ?_
  refine pi_get hx hb hC hown hP fL_X7_16 0 0 cM_0 (v := .ref (ad 1 0)) rfl dX7_buffs_3 ?_
  refine lv_iload_n hx hb dX7_buffs_6 rfl (lv_at hl 2 rfl) ?_
  refine ro_VR (As := [.int (nI i)]) (h0 := ad 1 0) (rest := []) (v := some (ad 3 i)) hx hb hml hown hC hS hAb (mJ_get l hP 0 (cM_1 (by decide)) (fun h9 => cM_2 (by decide) h9) (hly 0 (by decide)) i (by first | assumption | omega)) kV_X7_63 ⟨rfl, rfl⟩ ⟨Nat.le_of_ble_eq_true rfl, Nat.le_of_ble_eq_true rfl⟩ (hP.recv hC (cM_1 (i := 0) (by decide)) rfl) rfl hl (Nat.le_of_ble_eq_true rfl) ⟨Nat.zero_le _, Nat.zero_le _⟩ dX7_buffs_7 ?_
  have hg_1 : i < c.R 11 0 := by have := wf.sw; omega
  refine pi_cast (nm := "") hx hb hC hown hP 3 i (cM_3 hg_1) rfl wCl_X7_44 dX7_buffs_10 ?_
  refine pi_get hx hb hC hown hP fL_X7_97 3 i (cM_3 hg_1) (v := .ref (ad 4 i)) rfl dX7_buffs_13 ?_
  have g_2 := wf.wd hg_1
  refine lv_astore_n (lv' := [(3, .ref (ad 4 i)), (2, .int (nI 0)), (0, .ref (ad 0 0)), (1, .int (nI i))]) hx hb dX7_buffs_16 rfl hl (by decide) rfl (fun ls hl => ?_)
  refine lv_aload_n hx hb dX7_buffs_17 rfl (lv_at hl 0 rfl) ?_
  refine pi_alen hx hb hC hP 4 i 0 rfl (cM_4 hg_1) dX7_buffs_18 ?_
  have g_3 := wf.wd hg_1
  refine lv_istore (lv' := [(4, .int (nI (c.R 1 i))), (3, .ref (ad 4 i)), (2, .int (nI 0)), (0, .ref (ad 0 0)), (1, .int (nI i))]) hx hb dX7_buffs_19 hl (by decide) rfl (fun ls hl => ?_)
  refine lv_iconstN hx hb 0 dX7_buffs_21 (by decide) ?_
  refine lv_istore (lv' := [(5, .int (nI 0)), (4, .int (nI (c.R 1 i))), (3, .ref (ad 4 i)), (2, .int (nI 0)), (0, .ref (ad 0 0)), (1, .int (nI i))]) hx hb dX7_buffs_22 hl (by decide) rfl (fun ls hl => ?_)
  have lp24 : ∀ fu : Nat, ∀ (k a : Nat), k ≤ c.R 1 i → a = cntN (tbS c i) k → c.R 1 i - k < fu → ∀ ls : Array Slot, lv_has ls 7 [(0, .ref (ad 0 0)), (1, .int (nI i)), (2, .int (nI a)), (3, .ref (ad 4 i)), (4, .int (nI (c.R 1 i))), (5, .int (nI k))] → W p l e (rmk 5 0 0 108) s m ([.ref (ad 0 0), .int (nI i)] : List Value).toArray below meth co H [] 0 0 (MQ below (QiR (nI (ctbS c i)) H) ([.ref (ad 0 0), .int (nI i)] : List Value).toArray s 0 0 noA) (F0 m 24 ls []) := by
    intro fu
    induction fu with
    | zero => intro k a hk ha hfu; exact absurd hfu (Nat.not_lt_zero _)
    | succ fu ih24 =>
      intro k a hk ha hfu ls hl
      refine lv_iload hx hb dX7_buffs_24 (lv_at hl 5 rfl) ?_
      refine lv_iload hx hb dX7_buffs_26 (lv_at hl 4 rfl) ?_
      refine lv_icmpN_ge (tgt := 61) hx hb dX7_buffs_28 (by decide) (by omega) (by omega) (fun c_28 => ?_) (fun c_28 => ?_)
      · skip
        refine lv_iload_n hx hb dX7_buffs_61 rfl (lv_at hl 2 rfl) ?_
        exact ro_iret (x := nI a) hx hb hr hlocks hU (by first | (rw [ha, show k = c.R 1 i by omega]; done) | (rw [ha, show k = c.R 1 i by omega]; rfl)) dX7_buffs_62
      · skip
        refine lv_aload_n hx hb dX7_buffs_31 rfl (lv_at hl 3 rfl) ?_
        refine lv_iload hx hb dX7_buffs_32 (lv_at hl 5 rfl) ?_
        refine pi_iald hx hb hC hP 4 i (cM_4 hg_1) (j := k) (by first | assumption | omega) (by omega) dX7_buffs_34 ?_
        rcases d_34 : c.sh i k with _ | j_34
        · skip
          have sd_34 : shI c i k = -1 := shI_n d_34
          rw [sd_34]
          refine lv_istore (lv' := [(6, .int (-1)), (0, .ref (ad 0 0)), (1, .int (nI i)), (2, .int (nI a)), (3, .ref (ad 4 i)), (4, .int (nI (c.R 1 i))), (5, .int (nI k))]) hx hb dX7_buffs_35 hl (by decide) rfl (fun ls hl => ?_)
          refine lv_iload_n hx hb dX7_buffs_37 rfl (lv_at hl 3 rfl) ?_
          refine lv_aload_n hx hb dX7_buffs_38 rfl (lv_at hl 1 rfl) ?_
          refine lv_iload_n hx hb dX7_buffs_39 rfl (lv_at hl 2 rfl) ?_
          refine lv_iload hx hb dX7_buffs_40 (lv_at hl 0 rfl) ?_
          refine ro_V (As := [.int (nI i), .int (-1)]) (h0 := ad 0 0) (rest := [.int (nI a)]) (v := bI false) hx hb hml hown hC hS hAb (mX7_isBuffedn l hX i hg_1) kV_X7_156 ⟨rfl, rfl⟩ ⟨Nat.le_of_ble_eq_true rfl, Nat.le_of_ble_eq_true rfl⟩ (hP.recv hC cM_0 rfl) rfl hl (Nat.le_of_ble_eq_true rfl) ⟨Nat.zero_le _, Nat.zero_le _⟩ dX7_buffs_42 ?_
          refine lv_bif_eq (tgt := 52) hx hb dX7_buffs_45 (by decide) (fun c_45 => ?_) (fun c_45 => ?_)
          · skip
            refine lv_iconstN hx hb 0 dX7_buffs_52 (by decide) ?_
            refine lv_iaddN hx hb dX7_buffs_53 ?_
            refine lv_istore_n (lv' := [(2, .int (nI (a + 0))), (6, .int (-1)), (0, .ref (ad 0 0)), (1, .int (nI i)), (3, .ref (ad 4 i)), (4, .int (nI (c.R 1 i))), (5, .int (nI k))]) hx hb dX7_buffs_54 rfl hl (by decide) rfl (fun ls hl => ?_)
            refine lv_iincN (v := 1) (lv' := [(5, .int (nI (k + 1))), (2, .int (nI (a + 0))), (6, .int (-1)), (0, .ref (ad 0 0)), (1, .int (nI i)), (3, .ref (ad 4 i)), (4, .int (nI (c.R 1 i)))]) hx hb dX7_buffs_55 hl (k := 6) rfl (by decide) (by decide) rfl (fun ls hl => ?_)
            refine lv_goto (tgt := 24) hx hb dX7_buffs_58 (by decide) ?_
            exact ih24 (k + 1) (a + 0) (by first | rfl | assumption | omega | (simp [ha, c_28, d_34, c_45]; done) | (simp_all [ha, c_28, d_34, c_45]; done)) (by first | exact (congrArg (· + 1) ha).trans (cntN_t (by simpa [tbS, ha, c_28, d_34, c_45] using c_45)).symm | exact ha.trans (cntN_f (by simpa [tbS, ha, c_28, d_34, c_45] using c_45)).symm | exact ha.trans (cntN_f (by simp [tbS, ha, c_28, d_34, c_45])).symm) (by omega) _ (lv_sub hl [3, 4, 1, 5, 6, 0] rfl)
          · skip
            refine lv_iconstN hx hb 1 dX7_buffs_48 (by decide) ?_
            refine lv_goto (tgt := 53) hx hb dX7_buffs_49 (by decide) ?_
            refine lv_iaddN hx hb dX7_buffs_53 ?_
            refine lv_istore_n (lv' := [(2, .int (nI (a + 1))), (6, .int (-1)), (0, .ref (ad 0 0)), (1, .int (nI i)), (3, .ref (ad 4 i)), (4, .int (nI (c.R 1 i))), (5, .int (nI k))]) hx hb dX7_buffs_54 rfl hl (by decide) rfl (fun ls hl => ?_)
            refine lv_iincN (v := 1) (lv' := [(5, .int (nI (k + 1))), (2, .int (nI (a + 1))), (6, .int (-1)), (0, .ref (ad 0 0)), (1, .int (nI i)), (3, .ref (ad 4 i)), (4, .int (nI (c.R 1 i)))]) hx hb dX7_buffs_55 hl (k := 6) rfl (by decide) (by decide) rfl (fun ls hl => ?_)
            refine lv_goto (tgt := 24) hx hb dX7_buffs_58 (by decide) ?_
            exact ih24 (k + 1) (a + 1) (by first | rfl | assumption | omega | (simp [ha, c_28, d_34, c_45]; done) | (simp_all [ha, c_28, d_34, c_45]; done)) (by first | exact (congrArg (· + 1) ha).trans (cntN_t (by simpa [tbS, ha, c_28, d_34, c_45] using c_45)).symm | exact ha.trans (cntN_f (by simpa [tbS, ha, c_28, d_34, c_45] using c_45)).symm | exact ha.trans (cntN_f (by simp [tbS, ha, c_28, d_34, c_45])).symm) (by omega) _ (lv_sub hl [3, 4, 1, 5, 6, 0] rfl)
        · skip
          have sd_34 : shI c i k = nI j_34 := shI_s d_34
          rw [sd_34]
          have hj_34 : j_34 < c.R 11 2 := wf.sj hg_1 (by first | assumption | omega) d_34
          have g_4 := wf.nl
          refine lv_istore (lv' := [(6, .int (nI j_34)), (0, .ref (ad 0 0)), (1, .int (nI i)), (2, .int (nI a)), (3, .ref (ad 4 i)), (4, .int (nI (c.R 1 i))), (5, .int (nI k))]) hx hb dX7_buffs_35 hl (by decide) rfl (fun ls hl => ?_)
          refine lv_iload_n hx hb dX7_buffs_37 rfl (lv_at hl 3 rfl) ?_
          refine lv_aload_n hx hb dX7_buffs_38 rfl (lv_at hl 1 rfl) ?_
          refine lv_iload_n hx hb dX7_buffs_39 rfl (lv_at hl 2 rfl) ?_
          refine lv_iload hx hb dX7_buffs_40 (lv_at hl 0 rfl) ?_
          refine ro_V (As := [.int (nI i), .int (nI j_34)]) (h0 := ad 0 0) (rest := [.int (nI a)]) (v := bI (!c.B 1 j_34 || !permS c (c.R 5 j_34) i)) hx hb hml hown hC hS hAb (mX7_isBuffeds l hX i j_34 hg_1 hj_34) kV_X7_156 ⟨rfl, rfl⟩ ⟨Nat.le_of_ble_eq_true rfl, Nat.le_of_ble_eq_true rfl⟩ (hP.recv hC cM_0 rfl) rfl hl (Nat.le_of_ble_eq_true rfl) ⟨Nat.zero_le _, Nat.zero_le _⟩ dX7_buffs_42 ?_
          refine lv_bif_eq (tgt := 52) hx hb dX7_buffs_45 (by decide) (fun c_45 => ?_) (fun c_45 => ?_)
          · skip
            refine lv_iconstN hx hb 0 dX7_buffs_52 (by decide) ?_
            refine lv_iaddN hx hb dX7_buffs_53 ?_
            refine lv_istore_n (lv' := [(2, .int (nI (a + 0))), (6, .int (nI j_34)), (0, .ref (ad 0 0)), (1, .int (nI i)), (3, .ref (ad 4 i)), (4, .int (nI (c.R 1 i))), (5, .int (nI k))]) hx hb dX7_buffs_54 rfl hl (by decide) rfl (fun ls hl => ?_)
            refine lv_iincN (v := 1) (lv' := [(5, .int (nI (k + 1))), (2, .int (nI (a + 0))), (6, .int (nI j_34)), (0, .ref (ad 0 0)), (1, .int (nI i)), (3, .ref (ad 4 i)), (4, .int (nI (c.R 1 i)))]) hx hb dX7_buffs_55 hl (k := 6) rfl (by decide) (by decide) rfl (fun ls hl => ?_)
            refine lv_goto (tgt := 24) hx hb dX7_buffs_58 (by decide) ?_
            exact ih24 (k + 1) (a + 0) (by first | rfl | assumption | omega | (simp [ha, c_28, d_34, c_45]; done) | (simp_all [ha, c_28, d_34, c_45]; done)) (by first | exact (congrArg (· + 1) ha).trans (cntN_t (by simpa [tbS, ha, c_28, d_34, c_45] using c_45)).symm | exact ha.trans (cntN_f (by simpa [tbS, ha, c_28, d_34, c_45] using c_45)).symm | exact ha.trans (cntN_f (by simp [tbS, ha, c_28, d_34, c_45])).symm) (by omega) _ (lv_sub hl [3, 4, 1, 5, 6, 0] rfl)
          · skip
            refine lv_iconstN hx hb 1 dX7_buffs_48 (by decide) ?_
            refine lv_goto (tgt := 53) hx hb dX7_buffs_49 (by decide) ?_
            refine lv_iaddN hx hb dX7_buffs_53 ?_
            refine lv_istore_n (lv' := [(2, .int (nI (a + 1))), (6, .int (nI j_34)), (0, .ref (ad 0 0)), (1, .int (nI i)), (3, .ref (ad 4 i)), (4, .int (nI (c.R 1 i))), (5, .int (nI k))]) hx hb dX7_buffs_54 rfl hl (by decide) rfl (fun ls hl => ?_)
            refine lv_iincN (v := 1) (lv' := [(5, .int (nI (k + 1))), (2, .int (nI (a + 1))), (6, .int (nI j_34)), (0, .ref (ad 0 0)), (1, .int (nI i)), (3, .ref (ad 4 i)), (4, .int (nI (c.R 1 i)))]) hx hb dX7_buffs_55 hl (k := 6) rfl (by decide) (by decide) rfl (fun ls hl => ?_)
            refine lv_goto (tgt := 24) hx hb dX7_buffs_58 (by decide) ?_
            exact ih24 (k + 1) (a + 1) (by first | rfl | assumption | omega | (simp [ha, c_28, d_34, c_45]; done) | (simp_all [ha, c_28, d_34, c_45]; done)) (by first | exact (congrArg (· + 1) ha).trans (cntN_t (by simpa [tbS, ha, c_28, d_34, c_45] using c_45)).symm | exact ha.trans (cntN_f (by simpa [tbS, ha, c_28, d_34, c_45] using c_45)).symm | exact ha.trans (cntN_f (by simp [tbS, ha, c_28, d_34, c_45])).symm) (by omega) _ (lv_sub hl [3, 4, 1, 5, 6, 0] rfl)
  exact lp24 (c.R 1 i - 0 + 1) 0 0 (by first | rfl | assumption | omega | (simp []; done) | (simp_all []; done)) (rfl) (Nat.lt_succ_self _) _ (lv_sub hl [4, 5, 3, 2, 1, 0] rfl)
set_option maxHeartbeats 4000000 in
set_option maxRecDepth 100000 in
theorem mX7_seen (l : Launch) {E : En} {c : Cy} {th : Int32} {ly : Ly} {L : List Nat} {ad : Nat → Nat → Nat} {H : Heap} (hX : PM E c th ly L ad H) (j : Nat) (hj : j < c.R 11 2) : RoI l yX7_seen cX7_seen 2 .int (rmk 3 0 0 64) [.ref (ad 0 0), .int (nI j)] E H (nI (seenS c j)) := by
  obtain ⟨hP, hly, hLb, wf, eq0, eq1, eq2⟩ := id hX
  refine ro_of (by decide) (Nat.le_of_ble_eq_true rfl) ?_
  intro p e s m below meth co ls hx hb hr hml hown hlocks hnm hC hU hl
  have hS : va_S noA s.heap H [] := by rw [hU]; exact va_S.rf
  have hAb : ∀ q, noA q → bA E q := fun _ h => h.elim
  have hl : lv_has ls 2 [(0, .ref (ad 0 0)), (1, .int (nI j))] := hl
  refine lv_aload_n hx hb dX7_seen_0 rfl (lv_at hl 0 rfl) ?_
  refine pi_get hx hb hC hown hP fL_X7_16 0 0 cM_0 (v := .ref (ad 1 0)) rfl dX7_seen_1 ?_
  refine lv_aload_n hx hb dX7_seen_4 rfl (lv_at hl 0 rfl) ?_
  refine pi_get hx hb hC hown hP fL_X7_23 0 0 cM_0 (v := .ref (ad 1 2)) rfl dX7_seen_5 ?_
  refine lv_iload_n hx hb dX7_seen_8 rfl (lv_at hl 1 rfl) ?_
  refine ro_VR (As := [.int (nI j)]) (h0 := ad 1 2) (rest := [.ref (ad 1 0)]) (v := some (ad 7 j)) hx hb hml hown hC hS hAb (mJ_get l hP 2 (cM_1 (by decide)) (fun h9 => cM_2 (by decide) h9) (hly 2 (by decide)) j (by first | assumption | omega)) kV_X7_63 ⟨rfl, rfl⟩ ⟨Nat.le_of_ble_eq_true rfl, Nat.le_of_ble_eq_true rfl⟩ (hP.recv hC (cM_1 (i := 2) (by decide)) rfl) rfl hl (Nat.le_of_ble_eq_true rfl) ⟨Nat.zero_le _, Nat.zero_le _⟩ dX7_seen_9 ?_
  have hg_1 : j < c.R 11 2 := by have := wf.sl; omega
  refine pi_cast (nm := "") hx hb hC hown hP 7 j (cM_7 hg_1) rfl wCl_X7_85 dX7_seen_12 ?_
  refine pi_get hx hb hC hown hP fL_X7_174 7 j (cM_7 hg_1) (v := .int (nI (c.R 6 j))) rfl dX7_seen_15 ?_
  have g_2 := wf.lw hg_1
  refine ro_VR (As := [.int (nI (c.R 6 j))]) (h0 := ad 1 0) (rest := []) (v := some (ad 3 (c.R 6 j))) hx hb hml hown hC hS hAb (mJ_get l hP 0 (cM_1 (by decide)) (fun h9 => cM_2 (by decide) h9) (hly 0 (by decide)) (c.R 6 j) (by first | assumption | omega)) kV_X7_63 ⟨rfl, rfl⟩ ⟨Nat.le_of_ble_eq_true rfl, Nat.le_of_ble_eq_true rfl⟩ (hP.recv hC (cM_1 (i := 0) (by decide)) rfl) rfl hl (Nat.le_of_ble_eq_true rfl) ⟨Nat.zero_le _, Nat.zero_le _⟩ dX7_seen_18 ?_
  have hg_3 : c.R 6 j < c.R 11 0 := by have := wf.sw; omega
  refine pi_cast (nm := "") hx hb hC hown hP 3 (c.R 6 j) (cM_3 hg_3) rfl wCl_X7_44 dX7_seen_21 ?_
  refine lv_iload_n hx hb dX7_seen_24 rfl (lv_at hl 1 rfl) ?_
  refine ro_V (As := [.int (nI j)]) (h0 := ad 3 (c.R 6 j)) (rest := []) (v := nI (mnS c (c.R 6 j) (nI j))) hx hb hml hown hC hS hAb (mX6_many l hX (c.R 6 j) (nI j) (by first | assumption | omega)) kV_X7_177 ⟨rfl, rfl⟩ ⟨Nat.le_of_ble_eq_true rfl, Nat.le_of_ble_eq_true rfl⟩ (hP.recv hC (cM_3 hg_3) rfl) rfl hl (Nat.le_of_ble_eq_true rfl) ⟨Nat.zero_le _, Nat.zero_le _⟩ dX7_seen_25 ?_
  exact ro_iret (x := nI (mnS c (c.R 6 j) (nI j))) hx hb hr hlocks hU (by rw [mn_seen wf (wf.lw hj) hj]; rfl) dX7_seen_28
set_option maxHeartbeats 4000000 in
set_option maxRecDepth 100000 in
theorem mX7_layersOn (l : Launch) {E : En} {c : Cy} {th : Int32} {ly : Ly} {L : List Nat} {ad : Nat → Nat → Nat} {H : Heap} (hX : PM E c th ly L ad H) (i : Nat) (hi : i < c.R 11 0) : RoI l yX7_layersOn cX7_layersOn 4 .int (rmk 4 0 0 85) [.ref (ad 0 0), .int (nI i)] E H (nI (lsoS c i)) := by
  obtain ⟨hP, hly, hLb, wf, eq0, eq1, eq2⟩ := id hX
  refine ro_of (by decide) (Nat.le_of_ble_eq_true rfl) ?_
  intro p e s m below meth co ls hx hb hr hml hown hlocks hnm hC hU hl
  have hS : va_S noA s.heap H [] := by rw [hU]; exact va_S.rf
  have hAb : ∀ q, noA q → bA E q := fun _ h => h.elim
  have hl : lv_has ls 4 [(0, .ref (ad 0 0)), (1, .int (nI i))] := hl
  have gw := wf.nw
  refine lv_iconstN hx hb 0 dX7_layersOn_0 (by decide) ?_
  refine lv_istore_n (lv' := [(2, .int (nI 0)), (0, .ref (ad 0 0)), (1, .int (nI i))]) hx hb dX7_layersOn_1 rfl hl (by decide) rfl (fun ls hl => ?_)
  refine lv_iconstN hx hb 0 dX7_layersOn_2 (by decide) ?_
  refine lv_istore_n (lv' := [(3, .int (nI 0)), (2, .int (nI 0)), (0, .ref (ad 0 0)), (1, .int (nI i))]) hx hb dX7_layersOn_3 rfl hl (by decide) rfl (fun ls hl => ?_)
  have lp4 : ∀ fu : Nat, ∀ (k a : Nat), k ≤ c.R 10 2 → a = cntN (lsoB c i) k → c.R 10 2 - k < fu → ∀ ls : Array Slot, lv_has ls 4 [(0, .ref (ad 0 0)), (1, .int (nI i)), (2, .int (nI a)), (3, .int (nI k))] → W p l e (rmk 4 0 0 85) s m ([.ref (ad 0 0), .int (nI i)] : List Value).toArray below meth co H [] 0 0 (MQ below (QiR (nI (lsoS c i)) H) ([.ref (ad 0 0), .int (nI i)] : List Value).toArray s 0 0 noA) (F0 m 4 ls []) := by
    intro fu
    induction fu with
    | zero => intro k a hk ha hfu; exact absurd hfu (Nat.not_lt_zero _)
    | succ fu ih4 =>
      intro k a hk ha hfu ls hl
      refine lv_iload_n hx hb dX7_layersOn_4 rfl (lv_at hl 3 rfl) ?_
      refine lv_aload_n hx hb dX7_layersOn_5 rfl (lv_at hl 0 rfl) ?_
      refine pi_get hx hb hC hown hP fL_X7_23 0 0 cM_0 (v := .ref (ad 1 2)) rfl dX7_layersOn_6 ?_
      refine ro_V (As := []) (h0 := ad 1 2) (rest := [.int (nI k)]) (v := nI (c.R 10 2)) hx hb hml hown hC hS hAb (mJ_size l hP 2 (cM_1 (by decide))) kV_X7_33 ⟨rfl, rfl⟩ ⟨Nat.le_of_ble_eq_true rfl, Nat.le_of_ble_eq_true rfl⟩ (hP.recv hC (cM_1 (i := 2) (by decide)) rfl) rfl hl (Nat.le_of_ble_eq_true rfl) ⟨Nat.zero_le _, Nat.zero_le _⟩ dX7_layersOn_9 ?_
      have g_1 := wf.sl
      have g_2 := wf.nl
      refine lv_icmpN_ge (tgt := 55) hx hb dX7_layersOn_12 (by decide) (by omega) (by omega) (fun c_12 => ?_) (fun c_12 => ?_)
      · skip
        refine lv_iload_n hx hb dX7_layersOn_55 rfl (lv_at hl 2 rfl) ?_
        exact ro_iret (x := nI a) hx hb hr hlocks hU (by first | (rw [ha, show k = c.R 10 2 by omega]; done) | (rw [ha, show k = c.R 10 2 by omega]; rfl)) dX7_layersOn_56
      · skip
        refine lv_iload_n hx hb dX7_layersOn_15 rfl (lv_at hl 2 rfl) ?_
        refine lv_aload_n hx hb dX7_layersOn_16 rfl (lv_at hl 0 rfl) ?_
        refine pi_get hx hb hC hown hP fL_X7_23 0 0 cM_0 (v := .ref (ad 1 2)) rfl dX7_layersOn_17 ?_
        refine lv_iload_n hx hb dX7_layersOn_20 rfl (lv_at hl 3 rfl) ?_
        refine ro_VR (As := [.int (nI k)]) (h0 := ad 1 2) (rest := [.int (nI a)]) (v := some (ad 7 k)) hx hb hml hown hC hS hAb (mJ_get l hP 2 (cM_1 (by decide)) (fun h9 => cM_2 (by decide) h9) (hly 2 (by decide)) k (by first | assumption | omega)) kV_X7_63 ⟨rfl, rfl⟩ ⟨Nat.le_of_ble_eq_true rfl, Nat.le_of_ble_eq_true rfl⟩ (hP.recv hC (cM_1 (i := 2) (by decide)) rfl) rfl hl (Nat.le_of_ble_eq_true rfl) ⟨Nat.zero_le _, Nat.zero_le _⟩ dX7_layersOn_21 ?_
        have hg_3 : k < c.R 11 2 := by have := wf.sl; omega
        refine pi_cast (nm := "") hx hb hC hown hP 7 k (cM_7 hg_3) rfl wCl_X7_85 dX7_layersOn_24 ?_
        refine pi_get hx hb hC hown hP fL_X7_174 7 k (cM_7 hg_3) (v := .int (nI (c.R 6 k))) rfl dX7_layersOn_27 ?_
        have g_4 := wf.lw hg_3
        refine lv_iload_n hx hb dX7_layersOn_30 rfl (lv_at hl 1 rfl) ?_
        refine lv_icmpN_ne (tgt := 46) hx hb dX7_layersOn_31 (by decide) (by omega) (by omega) (fun c_31 => ?_) (fun c_31 => ?_)
        · skip
          refine lv_iconstN hx hb 0 dX7_layersOn_46 (by decide) ?_
          refine lv_iaddN hx hb dX7_layersOn_47 ?_
          refine lv_istore_n (lv' := [(2, .int (nI (a + 0))), (0, .ref (ad 0 0)), (1, .int (nI i)), (3, .int (nI k))]) hx hb dX7_layersOn_48 rfl hl (by decide) rfl (fun ls hl => ?_)
          refine lv_iincN (v := 1) (lv' := [(3, .int (nI (k + 1))), (2, .int (nI (a + 0))), (0, .ref (ad 0 0)), (1, .int (nI i))]) hx hb dX7_layersOn_49 hl (k := 3) rfl (by decide) (by decide) rfl (fun ls hl => ?_)
          refine lv_goto (tgt := 4) hx hb dX7_layersOn_52 (by decide) ?_
          exact ih4 (k + 1) (a + 0) (by first | rfl | assumption | omega | (simp [lsoB, ha, c_12, c_31]; done) | (simp_all [lsoB, ha, c_12, c_31]; done)) (by first | exact (congrArg (· + 1) ha).trans (cntN_t (by simp [lsoB, ha, c_12, c_31])).symm | exact ha.trans (cntN_f (by simp [lsoB, ha, c_12, c_31])).symm) (by omega) _ (lv_sub hl [2, 3, 1, 0] rfl)
        · skip
          refine lv_aload_n hx hb dX7_layersOn_34 rfl (lv_at hl 0 rfl) ?_
          refine lv_iload_n hx hb dX7_layersOn_35 rfl (lv_at hl 3 rfl) ?_
          refine ro_V (As := [.int (nI k)]) (h0 := ad 0 0) (rest := [.int (nI a)]) (v := nI (seenS c k)) hx hb hml hown hC hS hAb (mX7_seen l hX k hg_3) kV_X7_197 ⟨rfl, rfl⟩ ⟨Nat.le_of_ble_eq_true rfl, Nat.le_of_ble_eq_true rfl⟩ (hP.recv hC cM_0 rfl) rfl hl (Nat.le_of_ble_eq_true rfl) ⟨Nat.zero_le _, Nat.zero_le _⟩ dX7_layersOn_36 ?_
          have g_5 := seen_le wf (j := k) hg_3
          refine lv_ifN_le (tgt := 46) hx hb dX7_layersOn_39 (by decide) (by omega) (fun c_39 => ?_) (fun c_39 => ?_)
          · skip
            refine lv_iconstN hx hb 0 dX7_layersOn_46 (by decide) ?_
            refine lv_iaddN hx hb dX7_layersOn_47 ?_
            refine lv_istore_n (lv' := [(2, .int (nI (a + 0))), (0, .ref (ad 0 0)), (1, .int (nI i)), (3, .int (nI k))]) hx hb dX7_layersOn_48 rfl hl (by decide) rfl (fun ls hl => ?_)
            refine lv_iincN (v := 1) (lv' := [(3, .int (nI (k + 1))), (2, .int (nI (a + 0))), (0, .ref (ad 0 0)), (1, .int (nI i))]) hx hb dX7_layersOn_49 hl (k := 3) rfl (by decide) (by decide) rfl (fun ls hl => ?_)
            refine lv_goto (tgt := 4) hx hb dX7_layersOn_52 (by decide) ?_
            exact ih4 (k + 1) (a + 0) (by first | rfl | assumption | omega | (simp [lsoB, ha, c_12, c_31, c_39]; done) | (simp_all [lsoB, ha, c_12, c_31, c_39]; done)) (by first | exact (congrArg (· + 1) ha).trans (cntN_t (by simp [lsoB, ha, c_12, c_31, c_39])).symm | exact ha.trans (cntN_f (by simp [lsoB, ha, c_12, c_31, c_39])).symm) (by omega) _ (lv_sub hl [2, 3, 1, 0] rfl)
          · skip
            refine lv_iconstN hx hb 1 dX7_layersOn_42 (by decide) ?_
            refine lv_goto (tgt := 47) hx hb dX7_layersOn_43 (by decide) ?_
            refine lv_iaddN hx hb dX7_layersOn_47 ?_
            refine lv_istore_n (lv' := [(2, .int (nI (a + 1))), (0, .ref (ad 0 0)), (1, .int (nI i)), (3, .int (nI k))]) hx hb dX7_layersOn_48 rfl hl (by decide) rfl (fun ls hl => ?_)
            refine lv_iincN (v := 1) (lv' := [(3, .int (nI (k + 1))), (2, .int (nI (a + 1))), (0, .ref (ad 0 0)), (1, .int (nI i))]) hx hb dX7_layersOn_49 hl (k := 3) rfl (by decide) (by decide) rfl (fun ls hl => ?_)
            refine lv_goto (tgt := 4) hx hb dX7_layersOn_52 (by decide) ?_
            exact ih4 (k + 1) (a + 1) (by first | rfl | assumption | omega | (simp [lsoB, ha, c_12, c_31, c_39]; done) | (simp_all [lsoB, ha, c_12, c_31, c_39]; done)) (by first | exact (congrArg (· + 1) ha).trans (cntN_t (by simp [lsoB, ha, c_12, c_31, c_39])).symm | exact ha.trans (cntN_f (by simp [lsoB, ha, c_12, c_31, c_39])).symm) (by omega) _ (lv_sub hl [2, 3, 1, 0] rfl)
  exact lp4 (c.R 10 2 - 0 + 1) 0 0 (by first | rfl | assumption | omega | (simp [lsoB]; done) | (simp_all [lsoB]; done)) (rfl) (Nat.lt_succ_self _) _ (lv_sub hl [2, 3, 1, 0] rfl)
set_option maxHeartbeats 4000000 in
set_option maxRecDepth 100000 in
theorem mX7_layersOf (l : Launch) {E : En} {c : Cy} {th : Int32} {ly : Ly} {L : List Nat} {ad : Nat → Nat → Nat} {H : Heap} (hX : PM E c th ly L ad H) (h : Nat) (sn : Bool) (hh : h < c.R 11 1) : RoI l yX7_layersOf cX7_layersOf 5 .int (rmk 4 0 0 85) [.ref (ad 0 0), .int (nI h), .int (bI sn)] E H (nI (cntN (loM c h sn) (c.R 10 2))) := by
  obtain ⟨hP, hly, hLb, wf, eq0, eq1, eq2⟩ := id hX
  refine ro_of (by decide) (Nat.le_of_ble_eq_true rfl) ?_
  intro p e s m below meth co ls hx hb hr hml hown hlocks hnm hC hU hl
  have hS : va_S noA s.heap H [] := by rw [hU]; exact va_S.rf
  have hAb : ∀ q, noA q → bA E q := fun _ h => h.elim
  have hl : lv_has ls 5 [(0, .ref (ad 0 0)), (1, .int (nI h)), (2, .int (bI sn))] := hl
  have gh := wf.nh
  refine lv_iconstN hx hb 0 dX7_layersOf_0 (by decide) ?_
  refine lv_istore_n (lv' := [(3, .int (nI 0)), (0, .ref (ad 0 0)), (1, .int (nI h)), (2, .int (bI sn))]) hx hb dX7_layersOf_1 rfl hl (by decide) rfl (fun ls hl => ?_)
  refine lv_iconstN hx hb 0 dX7_layersOf_2 (by decide) ?_
  refine lv_istore (lv' := [(4, .int (nI 0)), (3, .int (nI 0)), (0, .ref (ad 0 0)), (1, .int (nI h)), (2, .int (bI sn))]) hx hb dX7_layersOf_3 hl (by decide) rfl (fun ls hl => ?_)
  have lp5 : ∀ fu : Nat, ∀ (k a : Nat), k ≤ c.R 10 2 → a = cntN (loM c h sn) k → c.R 10 2 - k < fu → ∀ ls : Array Slot, lv_has ls 5 [(0, .ref (ad 0 0)), (1, .int (nI h)), (2, .int (bI sn)), (3, .int (nI a)), (4, .int (nI k))] → W p l e (rmk 4 0 0 85) s m ([.ref (ad 0 0), .int (nI h), .int (bI sn)] : List Value).toArray below meth co H [] 0 0 (MQ below (QiR (nI (cntN (loM c h sn) (c.R 10 2))) H) ([.ref (ad 0 0), .int (nI h), .int (bI sn)] : List Value).toArray s 0 0 noA) (F0 m 5 ls []) := by
    intro fu
    induction fu with
    | zero => intro k a hk ha hfu; exact absurd hfu (Nat.not_lt_zero _)
    | succ fu ih5 =>
      intro k a hk ha hfu ls hl
      refine lv_iload hx hb dX7_layersOf_5 (lv_at hl 4 rfl) ?_
      refine lv_aload_n hx hb dX7_layersOf_7 rfl (lv_at hl 0 rfl) ?_
      refine pi_get hx hb hC hown hP fL_X7_23 0 0 cM_0 (v := .ref (ad 1 2)) rfl dX7_layersOf_8 ?_
      refine ro_V (As := []) (h0 := ad 1 2) (rest := [.int (nI k)]) (v := nI (c.R 10 2)) hx hb hml hown hC hS hAb (mJ_size l hP 2 (cM_1 (by decide))) kV_X7_33 ⟨rfl, rfl⟩ ⟨Nat.le_of_ble_eq_true rfl, Nat.le_of_ble_eq_true rfl⟩ (hP.recv hC (cM_1 (i := 2) (by decide)) rfl) rfl hl (Nat.le_of_ble_eq_true rfl) ⟨Nat.zero_le _, Nat.zero_le _⟩ dX7_layersOf_11 ?_
      have g_1 := wf.sl
      have g_2 := wf.nl
      refine lv_icmpN_ge (tgt := 63) hx hb dX7_layersOf_14 (by decide) (by omega) (by omega) (fun c_14 => ?_) (fun c_14 => ?_)
      · skip
        refine lv_iload_n hx hb dX7_layersOf_63 rfl (lv_at hl 3 rfl) ?_
        exact ro_iret (x := nI a) hx hb hr hlocks hU (by first | (rw [ha, show k = c.R 10 2 by omega]; done) | (rw [ha, show k = c.R 10 2 by omega]; rfl)) dX7_layersOf_64
      · skip
        refine lv_iload_n hx hb dX7_layersOf_17 rfl (lv_at hl 3 rfl) ?_
        refine lv_aload_n hx hb dX7_layersOf_18 rfl (lv_at hl 0 rfl) ?_
        refine pi_get hx hb hC hown hP fL_X7_23 0 0 cM_0 (v := .ref (ad 1 2)) rfl dX7_layersOf_19 ?_
        refine lv_iload hx hb dX7_layersOf_22 (lv_at hl 4 rfl) ?_
        refine ro_VR (As := [.int (nI k)]) (h0 := ad 1 2) (rest := [.int (nI a)]) (v := some (ad 7 k)) hx hb hml hown hC hS hAb (mJ_get l hP 2 (cM_1 (by decide)) (fun h9 => cM_2 (by decide) h9) (hly 2 (by decide)) k (by first | assumption | omega)) kV_X7_63 ⟨rfl, rfl⟩ ⟨Nat.le_of_ble_eq_true rfl, Nat.le_of_ble_eq_true rfl⟩ (hP.recv hC (cM_1 (i := 2) (by decide)) rfl) rfl hl (Nat.le_of_ble_eq_true rfl) ⟨Nat.zero_le _, Nat.zero_le _⟩ dX7_layersOf_24 ?_
        have hg_3 : k < c.R 11 2 := by have := wf.sl; omega
        refine pi_cast (nm := "") hx hb hC hown hP 7 k (cM_7 hg_3) rfl wCl_X7_85 dX7_layersOf_27 ?_
        refine pi_get hx hb hC hown hP fL_X7_84 7 k (cM_7 hg_3) (v := .int (nI (c.R 5 k))) rfl dX7_layersOf_30 ?_
        have g_4 := wf.lh hg_3
        refine lv_iload_n hx hb dX7_layersOf_33 rfl (lv_at hl 1 rfl) ?_
        refine lv_icmpN_ne (tgt := 54) hx hb dX7_layersOf_34 (by decide) (by omega) (by omega) (fun c_34 => ?_) (fun c_34 => ?_)
        · skip
          refine lv_iconstN hx hb 0 dX7_layersOf_54 (by decide) ?_
          refine lv_iaddN hx hb dX7_layersOf_55 ?_
          refine lv_istore_n (lv' := [(3, .int (nI (a + 0))), (0, .ref (ad 0 0)), (1, .int (nI h)), (2, .int (bI sn)), (4, .int (nI k))]) hx hb dX7_layersOf_56 rfl hl (by decide) rfl (fun ls hl => ?_)
          refine lv_iincN (v := 1) (lv' := [(4, .int (nI (k + 1))), (3, .int (nI (a + 0))), (0, .ref (ad 0 0)), (1, .int (nI h)), (2, .int (bI sn))]) hx hb dX7_layersOf_57 hl (k := 4) rfl (by decide) (by decide) rfl (fun ls hl => ?_)
          refine lv_goto (tgt := 5) hx hb dX7_layersOf_60 (by decide) ?_
          exact ih5 (k + 1) (a + 0) (by first | rfl | assumption | omega | (simp [loM, ha, c_14, c_34]; done) | (simp_all [loM, ha, c_14, c_34]; done)) (by first | exact (congrArg (· + 1) ha).trans (cntN_t (by simp [loM, ha, c_14, c_34])).symm | exact ha.trans (cntN_f (by simp [loM, ha, c_14, c_34])).symm) (by omega) _ (lv_sub hl [2, 3, 4, 1, 0] rfl)
        · skip
          refine lv_iload_n hx hb dX7_layersOf_37 rfl (lv_at hl 2 rfl) ?_
          refine lv_bif_eq (tgt := 50) hx hb dX7_layersOf_38 (by decide) (fun c_38 => ?_) (fun c_38 => ?_)
          · skip
            refine lv_iconstN hx hb 1 dX7_layersOf_50 (by decide) ?_
            refine lv_goto (tgt := 55) hx hb dX7_layersOf_51 (by decide) ?_
            refine lv_iaddN hx hb dX7_layersOf_55 ?_
            refine lv_istore_n (lv' := [(3, .int (nI (a + 1))), (0, .ref (ad 0 0)), (1, .int (nI h)), (2, .int (bI sn)), (4, .int (nI k))]) hx hb dX7_layersOf_56 rfl hl (by decide) rfl (fun ls hl => ?_)
            refine lv_iincN (v := 1) (lv' := [(4, .int (nI (k + 1))), (3, .int (nI (a + 1))), (0, .ref (ad 0 0)), (1, .int (nI h)), (2, .int (bI sn))]) hx hb dX7_layersOf_57 hl (k := 4) rfl (by decide) (by decide) rfl (fun ls hl => ?_)
            refine lv_goto (tgt := 5) hx hb dX7_layersOf_60 (by decide) ?_
            exact ih5 (k + 1) (a + 1) (by first | rfl | assumption | omega | (simp [loM, ha, c_14, c_34, c_38]; done) | (simp_all [loM, ha, c_14, c_34, c_38]; done)) (by first | exact (congrArg (· + 1) ha).trans (cntN_t (by simp [loM, ha, c_14, c_34, c_38])).symm | exact ha.trans (cntN_f (by simp [loM, ha, c_14, c_34, c_38])).symm) (by omega) _ (lv_sub hl [2, 3, 4, 1, 0] rfl)
          · skip
            refine lv_aload_n hx hb dX7_layersOf_41 rfl (lv_at hl 0 rfl) ?_
            refine lv_iload hx hb dX7_layersOf_42 (lv_at hl 4 rfl) ?_
            refine ro_V (As := [.int (nI k)]) (h0 := ad 0 0) (rest := [.int (nI a)]) (v := nI (seenS c k)) hx hb hml hown hC hS hAb (mX7_seen l hX k hg_3) kV_X7_197 ⟨rfl, rfl⟩ ⟨Nat.le_of_ble_eq_true rfl, Nat.le_of_ble_eq_true rfl⟩ (hP.recv hC cM_0 rfl) rfl hl (Nat.le_of_ble_eq_true rfl) ⟨Nat.zero_le _, Nat.zero_le _⟩ dX7_layersOf_44 ?_
            have g_5 := seen_le wf (j := k) hg_3
            refine lv_ifN_le (tgt := 54) hx hb dX7_layersOf_47 (by decide) (by omega) (fun c_47 => ?_) (fun c_47 => ?_)
            · skip
              refine lv_iconstN hx hb 0 dX7_layersOf_54 (by decide) ?_
              refine lv_iaddN hx hb dX7_layersOf_55 ?_
              refine lv_istore_n (lv' := [(3, .int (nI (a + 0))), (0, .ref (ad 0 0)), (1, .int (nI h)), (2, .int (bI sn)), (4, .int (nI k))]) hx hb dX7_layersOf_56 rfl hl (by decide) rfl (fun ls hl => ?_)
              refine lv_iincN (v := 1) (lv' := [(4, .int (nI (k + 1))), (3, .int (nI (a + 0))), (0, .ref (ad 0 0)), (1, .int (nI h)), (2, .int (bI sn))]) hx hb dX7_layersOf_57 hl (k := 4) rfl (by decide) (by decide) rfl (fun ls hl => ?_)
              refine lv_goto (tgt := 5) hx hb dX7_layersOf_60 (by decide) ?_
              exact ih5 (k + 1) (a + 0) (by first | rfl | assumption | omega | (simp [loM, ha, c_14, c_34, c_38, c_47]; done) | (simp_all [loM, ha, c_14, c_34, c_38, c_47]; done)) (by first | exact (congrArg (· + 1) ha).trans (cntN_t (by simp [loM, ha, c_14, c_34, c_38, c_47])).symm | exact ha.trans (cntN_f (by simp [loM, ha, c_14, c_34, c_38, c_47])).symm) (by omega) _ (lv_sub hl [2, 3, 4, 1, 0] rfl)
            · skip
              refine lv_iconstN hx hb 1 dX7_layersOf_50 (by decide) ?_
              refine lv_goto (tgt := 55) hx hb dX7_layersOf_51 (by decide) ?_
              refine lv_iaddN hx hb dX7_layersOf_55 ?_
              refine lv_istore_n (lv' := [(3, .int (nI (a + 1))), (0, .ref (ad 0 0)), (1, .int (nI h)), (2, .int (bI sn)), (4, .int (nI k))]) hx hb dX7_layersOf_56 rfl hl (by decide) rfl (fun ls hl => ?_)
              refine lv_iincN (v := 1) (lv' := [(4, .int (nI (k + 1))), (3, .int (nI (a + 1))), (0, .ref (ad 0 0)), (1, .int (nI h)), (2, .int (bI sn))]) hx hb dX7_layersOf_57 hl (k := 4) rfl (by decide) (by decide) rfl (fun ls hl => ?_)
              refine lv_goto (tgt := 5) hx hb dX7_layersOf_60 (by decide) ?_
              exact ih5 (k + 1) (a + 1) (by first | rfl | assumption | omega | (simp [loM, ha, c_14, c_34, c_38, c_47]; done) | (simp_all [loM, ha, c_14, c_34, c_38, c_47]; done)) (by first | exact (congrArg (· + 1) ha).trans (cntN_t (by simp [loM, ha, c_14, c_34, c_38, c_47])).symm | exact ha.trans (cntN_f (by simp [loM, ha, c_14, c_34, c_38, c_47])).symm) (by omega) _ (lv_sub hl [2, 3, 4, 1, 0] rfl)
  exact lp5 (c.R 10 2 - 0 + 1) 0 0 (by first | rfl | assumption | omega | (simp [loM]; done) | (simp_all [loM]; done)) (rfl) (Nat.lt_succ_self _) _ (lv_sub hl [2, 3, 4, 1, 0] rfl)
set_option maxHeartbeats 4000000 in
set_option maxRecDepth 100000 in
theorem mX7_wrongsOf_ (l : Launch) {E : En} {c : Cy} {th : Int32} {ly : Ly} {L : List Nat} {ad : Nat → Nat → Nat} {H : Heap} (hX : PM E c th ly L ad H) (h : Nat) (sn : Bool) (hh : h < c.R 11 1) : RoI l yX7_wrongsOf_ cX7_wrongsOf_ 5 .int (rmk 3 0 0 64) [.ref (ad 0 0), .int (nI h), .int (bI sn)] E H (smI (wrM c h sn) (c.R 10 1)) := by
  obtain ⟨hP, hly, hLb, wf, eq0, eq1, eq2⟩ := id hX
  refine ro_of (by decide) (Nat.le_of_ble_eq_true rfl) ?_
  intro p e s m below meth co ls hx hb hr hml hown hlocks hnm hC hU hl
  have hS : va_S noA s.heap H [] := by rw [hU]; exact va_S.rf
  have hAb : ∀ q, noA q → bA E q := fun _ h => h.elim
  have hl : lv_has ls 5 [(0, .ref (ad 0 0)), (1, .int (nI h)), (2, .int (bI sn))] := hl
  have gh := wf.nh
  refine lv_iconstN hx hb 0 dX7_wrongsOf__0 (by decide) ?_
  refine lv_istore_n (lv' := [(3, .int (nI 0)), (0, .ref (ad 0 0)), (1, .int (nI h)), (2, .int (bI sn))]) hx hb dX7_wrongsOf__1 rfl hl (by decide) rfl (fun ls hl => ?_)
  refine lv_iconstN hx hb 0 dX7_wrongsOf__2 (by decide) ?_
  refine lv_istore (lv' := [(4, .int (nI 0)), (3, .int (nI 0)), (0, .ref (ad 0 0)), (1, .int (nI h)), (2, .int (bI sn))]) hx hb dX7_wrongsOf__3 hl (by decide) rfl (fun ls hl => ?_)
  have lp5 : ∀ fu : Nat, ∀ (k : Nat) (a : Int32), k ≤ c.R 10 1 → a = smI (wrM c h sn) k → c.R 10 1 - k < fu → ∀ ls : Array Slot, lv_has ls 5 [(0, .ref (ad 0 0)), (1, .int (nI h)), (2, .int (bI sn)), (3, .int a), (4, .int (nI k))] → W p l e (rmk 3 0 0 64) s m ([.ref (ad 0 0), .int (nI h), .int (bI sn)] : List Value).toArray below meth co H [] 0 0 (MQ below (QiR (smI (wrM c h sn) (c.R 10 1)) H) ([.ref (ad 0 0), .int (nI h), .int (bI sn)] : List Value).toArray s 0 0 noA) (F0 m 5 ls []) := by
    intro fu
    induction fu with
    | zero => intro k a hk ha hfu; exact absurd hfu (Nat.not_lt_zero _)
    | succ fu ih5 =>
      intro k a hk ha hfu ls hl
      refine lv_iload hx hb dX7_wrongsOf__5 (lv_at hl 4 rfl) ?_
      refine lv_aload_n hx hb dX7_wrongsOf__7 rfl (lv_at hl 0 rfl) ?_
      refine pi_get hx hb hC hown hP fL_X7_20 0 0 cM_0 (v := .ref (ad 1 1)) rfl dX7_wrongsOf__8 ?_
      refine ro_V (As := []) (h0 := ad 1 1) (rest := [.int (nI k)]) (v := nI (c.R 10 1)) hx hb hml hown hC hS hAb (mJ_size l hP 1 (cM_1 (by decide))) kV_X7_33 ⟨rfl, rfl⟩ ⟨Nat.le_of_ble_eq_true rfl, Nat.le_of_ble_eq_true rfl⟩ (hP.recv hC (cM_1 (i := 1) (by decide)) rfl) rfl hl (Nat.le_of_ble_eq_true rfl) ⟨Nat.zero_le _, Nat.zero_le _⟩ dX7_wrongsOf__11 ?_
      have g_1 := wf.sh'
      have g_2 := wf.nh
      refine lv_icmpN_ge (tgt := 67) hx hb dX7_wrongsOf__14 (by decide) (by omega) (by omega) (fun c_14 => ?_) (fun c_14 => ?_)
      · skip
        refine lv_iload_n hx hb dX7_wrongsOf__67 rfl (lv_at hl 3 rfl) ?_
        exact ro_iret (x := a) hx hb hr hlocks hU (by first | (rw [ha, show k = c.R 10 1 by omega]; done) | (rw [ha, show k = c.R 10 1 by omega]; rfl)) dX7_wrongsOf__68
      · skip
        refine lv_iload_n hx hb dX7_wrongsOf__17 rfl (lv_at hl 3 rfl) ?_
        refine lv_iload_n hx hb dX7_wrongsOf__18 rfl (lv_at hl 2 rfl) ?_
        refine lv_bif_eq (tgt := 42) hx hb dX7_wrongsOf__19 (by decide) (fun c_19 => ?_) (fun c_19 => ?_)
        · skip
          refine lv_aload_n hx hb dX7_wrongsOf__42 rfl (lv_at hl 0 rfl) ?_
          refine pi_get hx hb hC hown hP fL_X7_20 0 0 cM_0 (v := .ref (ad 1 1)) rfl dX7_wrongsOf__43 ?_
          refine lv_iload hx hb dX7_wrongsOf__46 (lv_at hl 4 rfl) ?_
          refine ro_VR (As := [.int (nI k)]) (h0 := ad 1 1) (rest := [.int a]) (v := some (ad 5 k)) hx hb hml hown hC hS hAb (mJ_get l hP 1 (cM_1 (by decide)) (fun h9 => cM_2 (by decide) h9) (hly 1 (by decide)) k (by first | assumption | omega)) kV_X7_63 ⟨rfl, rfl⟩ ⟨Nat.le_of_ble_eq_true rfl, Nat.le_of_ble_eq_true rfl⟩ (hP.recv hC (cM_1 (i := 1) (by decide)) rfl) rfl hl (Nat.le_of_ble_eq_true rfl) ⟨Nat.zero_le _, Nat.zero_le _⟩ dX7_wrongsOf__48 ?_
          have hg_3 : k < c.R 11 1 := by have := wf.sh'; omega
          refine pi_cast (nm := "") hx hb hC hown hP 5 k (cM_5 hg_3) rfl wCl_X7_53 dX7_wrongsOf__51 ?_
          refine pi_get hx hb hC hown hP fL_X7_130 5 k (cM_5 hg_3) (v := .ref (ad 6 k)) rfl dX7_wrongsOf__54 ?_
          refine lv_iload_n hx hb dX7_wrongsOf__57 rfl (lv_at hl 1 rfl) ?_
          refine pi_iald hx hb hC hP 6 k (cM_6 hg_3) (j := h) (by omega) (by omega) dX7_wrongsOf__58 ?_
          refine lv_iadd hx hb dX7_wrongsOf__59 ?_
          refine lv_istore_n (lv' := [(3, .int (a + (c.Wr k h))), (0, .ref (ad 0 0)), (1, .int (nI h)), (2, .int (bI sn)), (4, .int (nI k))]) hx hb dX7_wrongsOf__60 rfl hl (by decide) rfl (fun ls hl => ?_)
          refine lv_iincN (v := 1) (lv' := [(4, .int (nI (k + 1))), (3, .int (a + (c.Wr k h))), (0, .ref (ad 0 0)), (1, .int (nI h)), (2, .int (bI sn))]) hx hb dX7_wrongsOf__61 hl (k := 4) rfl (by decide) (by decide) rfl (fun ls hl => ?_)
          refine lv_goto (tgt := 5) hx hb dX7_wrongsOf__64 (by decide) ?_
          exact ih5 (k + 1) (a + (c.Wr k h)) (by first | rfl | assumption | omega | (simp [ha, c_14, c_19]; done) | (simp_all [ha, c_14, c_19]; done)) (by rw [ha]; show _ = smI (wrM c h sn) k + wrM c h sn k; unfold wrM; first | rw [if_neg (by rw [c_19]; decide)] | rw [if_pos c_19]) (by omega) _ (lv_sub hl [2, 3, 4, 1, 0] rfl)
        · skip
          refine lv_aload_n hx hb dX7_wrongsOf__22 rfl (lv_at hl 0 rfl) ?_
          refine pi_get hx hb hC hown hP fL_X7_20 0 0 cM_0 (v := .ref (ad 1 1)) rfl dX7_wrongsOf__23 ?_
          refine lv_iload_n hx hb dX7_wrongsOf__26 rfl (lv_at hl 1 rfl) ?_
          refine ro_VR (As := [.int (nI h)]) (h0 := ad 1 1) (rest := [.int a]) (v := some (ad 5 h)) hx hb hml hown hC hS hAb (mJ_get l hP 1 (cM_1 (by decide)) (fun h9 => cM_2 (by decide) h9) (hly 1 (by decide)) h (by first | assumption | omega)) kV_X7_63 ⟨rfl, rfl⟩ ⟨Nat.le_of_ble_eq_true rfl, Nat.le_of_ble_eq_true rfl⟩ (hP.recv hC (cM_1 (i := 1) (by decide)) rfl) rfl hl (Nat.le_of_ble_eq_true rfl) ⟨Nat.zero_le _, Nat.zero_le _⟩ dX7_wrongsOf__27 ?_
          have hg_4 : h < c.R 11 1 := by have := wf.sh'; omega
          refine pi_cast (nm := "") hx hb hC hown hP 5 h (cM_5 hg_4) rfl wCl_X7_53 dX7_wrongsOf__30 ?_
          refine pi_get hx hb hC hown hP fL_X7_130 5 h (cM_5 hg_4) (v := .ref (ad 6 h)) rfl dX7_wrongsOf__33 ?_
          refine lv_iload hx hb dX7_wrongsOf__36 (lv_at hl 4 rfl) ?_
          refine pi_iald hx hb hC hP 6 h (cM_6 hg_4) (j := k) (by omega) (by omega) dX7_wrongsOf__38 ?_
          refine lv_goto (tgt := 59) hx hb dX7_wrongsOf__39 (by decide) ?_
          refine lv_iadd hx hb dX7_wrongsOf__59 ?_
          refine lv_istore_n (lv' := [(3, .int (a + (c.Wr h k))), (0, .ref (ad 0 0)), (1, .int (nI h)), (2, .int (bI sn)), (4, .int (nI k))]) hx hb dX7_wrongsOf__60 rfl hl (by decide) rfl (fun ls hl => ?_)
          refine lv_iincN (v := 1) (lv' := [(4, .int (nI (k + 1))), (3, .int (a + (c.Wr h k))), (0, .ref (ad 0 0)), (1, .int (nI h)), (2, .int (bI sn))]) hx hb dX7_wrongsOf__61 hl (k := 4) rfl (by decide) (by decide) rfl (fun ls hl => ?_)
          refine lv_goto (tgt := 5) hx hb dX7_wrongsOf__64 (by decide) ?_
          exact ih5 (k + 1) (a + (c.Wr h k)) (by first | rfl | assumption | omega | (simp [ha, c_14, c_19]; done) | (simp_all [ha, c_14, c_19]; done)) (by rw [ha]; show _ = smI (wrM c h sn) k + wrM c h sn k; unfold wrM; first | rw [if_neg (by rw [c_19]; decide)] | rw [if_pos c_19]) (by omega) _ (lv_sub hl [2, 3, 4, 1, 0] rfl)
  exact lp5 (c.R 10 1 - 0 + 1) 0 (nI 0) (by first | rfl | assumption | omega | (simp []; done) | (simp_all []; done)) (rfl) (Nat.lt_succ_self _) _ (lv_sub hl [2, 3, 4, 1, 0] rfl)
set_option maxHeartbeats 4000000 in
set_option maxRecDepth 100000 in
theorem mX7_suspect (l : Launch) {E : En} {c : Cy} {th : Int32} {ly : Ly} {L : List Nat} {ad : Nat → Nat → Nat} {H : Heap} (hX : PM E c th ly L ad H) (j : Nat) (hj : j < c.R 11 2) : RoI l yX7_suspect cX7_suspect 7 .int (rmk 3 0 0 64) [.ref (ad 0 0), .ref (ad 7 j)] E H (suS c j) := by
  obtain ⟨hP, hly, hLb, wf, eq0, eq1, eq2⟩ := id hX
  refine ro_of (by decide) (Nat.le_of_ble_eq_true rfl) ?_
  intro p e s m below meth co ls hx hb hr hml hown hlocks hnm hC hU hl
  have hS : va_S noA s.heap H [] := by rw [hU]; exact va_S.rf
  have hAb : ∀ q, noA q → bA E q := fun _ h => h.elim
  have hl : lv_has ls 7 [(0, .ref (ad 0 0)), (1, .ref (ad 7 j))] := hl
  refine lv_iconst (v := -1) hx hb dX7_suspect_0 (by decide) ?_
  refine lv_istore_n (lv' := [(2, .int (-1)), (0, .ref (ad 0 0)), (1, .ref (ad 7 j))]) hx hb dX7_suspect_1 rfl hl (by decide) rfl (fun ls hl => ?_)
  refine lv_iconstN hx hb 0 dX7_suspect_2 (by decide) ?_
  refine lv_istore_n (lv' := [(3, .int (nI 0)), (2, .int (-1)), (0, .ref (ad 0 0)), (1, .ref (ad 7 j))]) hx hb dX7_suspect_3 rfl hl (by decide) rfl (fun ls hl => ?_)
  refine lv_iconstN hx hb 0 dX7_suspect_4 (by decide) ?_
  refine lv_istore (lv' := [(4, .int (nI 0)), (3, .int (nI 0)), (2, .int (-1)), (0, .ref (ad 0 0)), (1, .ref (ad 7 j))]) hx hb dX7_suspect_5 hl (by decide) rfl (fun ls hl => ?_)
  have lp7 : ∀ fu : Nat, ∀ (k : Nat) (b2 m2 : Int32), k ≤ c.R 10 1 → b2 = (suF c j k).1 → m2 = (suF c j k).2 → c.R 10 1 - k < fu → ∀ ls : Array Slot, lv_has ls 7 [(0, .ref (ad 0 0)), (1, .ref (ad 7 j)), (2, .int b2), (3, .int m2), (4, .int (nI k))] → W p l e (rmk 3 0 0 64) s m ([.ref (ad 0 0), .ref (ad 7 j)] : List Value).toArray below meth co H [] 0 0 (MQ below (QiR (suS c j) H) ([.ref (ad 0 0), .ref (ad 7 j)] : List Value).toArray s 0 0 noA) (F0 m 7 ls []) := by
    intro fu
    induction fu with
    | zero => intro k b2 m2 hk h1 h2 hfu; exact absurd hfu (Nat.not_lt_zero _)
    | succ fu ih7 =>
      intro k b2 m2 hk h1 h2 hfu ls hl
      refine lv_iload hx hb dX7_suspect_7 (lv_at hl 4 rfl) ?_
      refine lv_aload_n hx hb dX7_suspect_9 rfl (lv_at hl 0 rfl) ?_
      refine pi_get hx hb hC hown hP fL_X7_20 0 0 cM_0 (v := .ref (ad 1 1)) rfl dX7_suspect_10 ?_
      refine ro_V (As := []) (h0 := ad 1 1) (rest := [.int (nI k)]) (v := nI (c.R 10 1)) hx hb hml hown hC hS hAb (mJ_size l hP 1 (cM_1 (by decide))) kV_X7_33 ⟨rfl, rfl⟩ ⟨Nat.le_of_ble_eq_true rfl, Nat.le_of_ble_eq_true rfl⟩ (hP.recv hC (cM_1 (i := 1) (by decide)) rfl) rfl hl (Nat.le_of_ble_eq_true rfl) ⟨Nat.zero_le _, Nat.zero_le _⟩ dX7_suspect_13 ?_
      have g_1 := wf.sh'
      have g_2 := wf.nh
      refine lv_icmpN_ge (tgt := 96) hx hb dX7_suspect_16 (by decide) (by omega) (by omega) (fun c_16 => ?_) (fun c_16 => ?_)
      · skip
        refine lv_iload_n hx hb dX7_suspect_96 rfl (lv_at hl 2 rfl) ?_
        exact ro_iret (x := b2) hx hb hr hlocks hU (by rw [h1, show k = c.R 10 1 by omega]; rfl) dX7_suspect_97
      · skip
        refine lv_aload_n hx hb dX7_suspect_19 rfl (lv_at hl 0 rfl) ?_
        refine pi_get hx hb hC hown hP fL_X7_20 0 0 cM_0 (v := .ref (ad 1 1)) rfl dX7_suspect_20 ?_
        refine lv_iload hx hb dX7_suspect_23 (lv_at hl 4 rfl) ?_
        refine ro_VR (As := [.int (nI k)]) (h0 := ad 1 1) (rest := []) (v := some (ad 5 k)) hx hb hml hown hC hS hAb (mJ_get l hP 1 (cM_1 (by decide)) (fun h9 => cM_2 (by decide) h9) (hly 1 (by decide)) k (by first | assumption | omega)) kV_X7_63 ⟨rfl, rfl⟩ ⟨Nat.le_of_ble_eq_true rfl, Nat.le_of_ble_eq_true rfl⟩ (hP.recv hC (cM_1 (i := 1) (by decide)) rfl) rfl hl (Nat.le_of_ble_eq_true rfl) ⟨Nat.zero_le _, Nat.zero_le _⟩ dX7_suspect_25 ?_
        have hg_3 : k < c.R 11 1 := by have := wf.sh'; omega
        refine pi_cast (nm := "") hx hb hC hown hP 5 k (cM_5 hg_3) rfl wCl_X7_53 dX7_suspect_28 ?_
        refine lv_astore (lv' := [(5, .ref (ad 5 k)), (0, .ref (ad 0 0)), (1, .ref (ad 7 j)), (2, .int b2), (3, .int m2), (4, .int (nI k))]) hx hb dX7_suspect_31 hl (by decide) rfl (fun ls hl => ?_)
        refine lv_aload hx hb dX7_suspect_33 (lv_at hl 0 rfl) ?_
        refine pi_get hx hb hC hown hP fL_X7_133 5 k (cM_5 hg_3) (v := .int (c.I 9 k)) rfl dX7_suspect_35 ?_
        refine lv_aload_n hx hb dX7_suspect_38 rfl (lv_at hl 2 rfl) ?_
        refine pi_get hx hb hC hown hP fL_X7_233 7 j (cM_7 hj) (v := .int (slS c j)) rfl dX7_suspect_39 ?_
        refine lv_isub hx hb dX7_suspect_42 ?_
        refine va_mabs hx hb (hml.trans hl.1.symm) hown (hC.2.1.hts _ _ wAbs_X7) (hC.2.1.hts _ _ wAbsS) (hC.2.1.hts _ _ wAbsI) (hC.2.1.hts _ _ wAbsC) (Nat.le_of_ble_eq_true rfl) (Nat.le_of_ble_eq_true rfl) (Nat.zero_le _) (Nat.zero_le _) (x := ((c.I 9 k) - (slS c j))) (rest := []) dX7_suspect_43 ?_
        refine lv_aload hx hb dX7_suspect_46 (lv_at hl 0 rfl) ?_
        refine pi_get hx hb hC hown hP fL_X7_136 5 k (cM_5 hg_3) (v := .int (c.I 10 k)) rfl dX7_suspect_48 ?_
        refine lv_aload_n hx hb dX7_suspect_51 rfl (lv_at hl 2 rfl) ?_
        refine pi_get hx hb hC hown hP fL_X7_239 7 j (cM_7 hj) (v := .int (rdS c j)) rfl dX7_suspect_52 ?_
        refine lv_isub hx hb dX7_suspect_55 ?_
        refine va_mabs hx hb (hml.trans hl.1.symm) hown (hC.2.1.hts _ _ wAbs_X7) (hC.2.1.hts _ _ wAbsS) (hC.2.1.hts _ _ wAbsI) (hC.2.1.hts _ _ wAbsC) (Nat.le_of_ble_eq_true rfl) (Nat.le_of_ble_eq_true rfl) (Nat.zero_le _) (Nat.zero_le _) (x := ((c.I 10 k) - (rdS c j))) (rest := [.int (absS ((c.I 9 k) - (slS c j)))]) dX7_suspect_56 ?_
        refine lv_iadd hx hb dX7_suspect_59 ?_
        refine lv_istore (lv' := [(6, .int ((absS ((c.I 9 k) - (slS c j))) + (absS ((c.I 10 k) - (rdS c j))))), (5, .ref (ad 5 k)), (0, .ref (ad 0 0)), (1, .ref (ad 7 j)), (2, .int b2), (3, .int m2), (4, .int (nI k))]) hx hb dX7_suspect_60 hl (by decide) rfl (fun ls hl => ?_)
        refine lv_aload hx hb dX7_suspect_62 (lv_at hl 1 rfl) ?_
        refine pi_get hx hb hC hown hP fL_X7_151 5 k (cM_5 hg_3) (v := .int (bI (c.B 0 k))) rfl dX7_suspect_64 ?_
        refine lv_bif_eq (tgt := 90) hx hb dX7_suspect_67 (by decide) (fun c_67 => ?_) (fun c_67 => ?_)
        · skip
          refine lv_iincN (v := 1) (lv' := [(4, .int (nI (k + 1))), (6, .int ((absS ((c.I 9 k) - (slS c j))) + (absS ((c.I 10 k) - (rdS c j))))), (5, .ref (ad 5 k)), (0, .ref (ad 0 0)), (1, .ref (ad 7 j)), (2, .int b2), (3, .int m2)]) hx hb dX7_suspect_90 hl (k := 6) rfl (by decide) (by decide) rfl (fun ls hl => ?_)
          refine lv_goto (tgt := 7) hx hb dX7_suspect_93 (by decide) ?_
          exact ih7 (k + 1) b2 m2 (by first | rfl | assumption | omega | (simp [c_16, c_67]; done) | (simp_all [c_16, c_67]; done)) (by first | (rw [h1]; simp only [suF]; rw [if_neg (by simp [diS, ← h1, ← h2, c_16, c_67])]) | (simp only [suF]; rw [if_pos (by simp [diS, ← h1, ← h2, c_16, c_67])])) (by first | (rw [h2]; simp only [suF]; rw [if_neg (by simp [diS, ← h1, ← h2, c_16, c_67])]) | (simp only [suF]; rw [if_pos (by simp [diS, ← h1, ← h2, c_16, c_67])]; rfl)) (by omega) _ (lv_sub hl [3, 4, 5, 6, 0] rfl)
        · skip
          refine lv_iload_n hx hb dX7_suspect_70 rfl (lv_at hl 4 rfl) ?_
          refine lv_iconst (v := -1) hx hb dX7_suspect_71 (by decide) ?_
          refine lv_icmp_eq (tgt := 84) hx hb dX7_suspect_72 (by decide) (fun c_72 => ?_) (fun c_72 => ?_)
          · skip
            refine lv_iload hx hb dX7_suspect_84 (lv_at hl 6 rfl) ?_
            refine lv_istore_n (lv' := [(2, .int (nI k)), (6, .int ((absS ((c.I 9 k) - (slS c j))) + (absS ((c.I 10 k) - (rdS c j))))), (5, .ref (ad 5 k)), (0, .ref (ad 0 0)), (1, .ref (ad 7 j)), (3, .int m2), (4, .int (nI k))]) hx hb dX7_suspect_86 rfl hl (by decide) rfl (fun ls hl => ?_)
            refine lv_iload hx hb dX7_suspect_87 (lv_at hl 1 rfl) ?_
            refine lv_istore_n (lv' := [(3, .int ((absS ((c.I 9 k) - (slS c j))) + (absS ((c.I 10 k) - (rdS c j))))), (2, .int (nI k)), (6, .int ((absS ((c.I 9 k) - (slS c j))) + (absS ((c.I 10 k) - (rdS c j))))), (5, .ref (ad 5 k)), (0, .ref (ad 0 0)), (1, .ref (ad 7 j)), (4, .int (nI k))]) hx hb dX7_suspect_89 rfl hl (by decide) rfl (fun ls hl => ?_)
            refine lv_iincN (v := 1) (lv' := [(4, .int (nI (k + 1))), (3, .int ((absS ((c.I 9 k) - (slS c j))) + (absS ((c.I 10 k) - (rdS c j))))), (2, .int (nI k)), (6, .int ((absS ((c.I 9 k) - (slS c j))) + (absS ((c.I 10 k) - (rdS c j))))), (5, .ref (ad 5 k)), (0, .ref (ad 0 0)), (1, .ref (ad 7 j))]) hx hb dX7_suspect_90 hl (k := 6) rfl (by decide) (by decide) rfl (fun ls hl => ?_)
            refine lv_goto (tgt := 7) hx hb dX7_suspect_93 (by decide) ?_
            exact ih7 (k + 1) (nI k) ((absS ((c.I 9 k) - (slS c j))) + (absS ((c.I 10 k) - (rdS c j)))) (by first | rfl | assumption | omega | (simp [c_16, c_67, c_72]; done) | (simp_all [c_16, c_67, c_72]; done)) (by first | (rw [h1]; simp only [suF]; rw [if_neg (by simp [diS, ← h1, ← h2, c_16, c_67, c_72])]) | (simp only [suF]; rw [if_pos (by simp [diS, ← h1, ← h2, c_16, c_67, c_72])])) (by first | (rw [h2]; simp only [suF]; rw [if_neg (by simp [diS, ← h1, ← h2, c_16, c_67, c_72])]) | (simp only [suF]; rw [if_pos (by simp [diS, ← h1, ← h2, c_16, c_67, c_72])]; rfl)) (by omega) _ (lv_sub hl [5, 6, 2, 1, 0] rfl)
          · skip
            refine lv_iload hx hb dX7_suspect_75 (lv_at hl 0 rfl) ?_
            refine lv_iload_n hx hb dX7_suspect_77 rfl (lv_at hl 5 rfl) ?_
            refine lv_icmp_lt (tgt := 84) hx hb dX7_suspect_78 (by decide) (fun c_78 => ?_) (fun c_78 => ?_)
            · skip
              refine lv_iload hx hb dX7_suspect_84 (lv_at hl 6 rfl) ?_
              refine lv_istore_n (lv' := [(2, .int (nI k)), (6, .int ((absS ((c.I 9 k) - (slS c j))) + (absS ((c.I 10 k) - (rdS c j))))), (5, .ref (ad 5 k)), (0, .ref (ad 0 0)), (1, .ref (ad 7 j)), (3, .int m2), (4, .int (nI k))]) hx hb dX7_suspect_86 rfl hl (by decide) rfl (fun ls hl => ?_)
              refine lv_iload hx hb dX7_suspect_87 (lv_at hl 1 rfl) ?_
              refine lv_istore_n (lv' := [(3, .int ((absS ((c.I 9 k) - (slS c j))) + (absS ((c.I 10 k) - (rdS c j))))), (2, .int (nI k)), (6, .int ((absS ((c.I 9 k) - (slS c j))) + (absS ((c.I 10 k) - (rdS c j))))), (5, .ref (ad 5 k)), (0, .ref (ad 0 0)), (1, .ref (ad 7 j)), (4, .int (nI k))]) hx hb dX7_suspect_89 rfl hl (by decide) rfl (fun ls hl => ?_)
              refine lv_iincN (v := 1) (lv' := [(4, .int (nI (k + 1))), (3, .int ((absS ((c.I 9 k) - (slS c j))) + (absS ((c.I 10 k) - (rdS c j))))), (2, .int (nI k)), (6, .int ((absS ((c.I 9 k) - (slS c j))) + (absS ((c.I 10 k) - (rdS c j))))), (5, .ref (ad 5 k)), (0, .ref (ad 0 0)), (1, .ref (ad 7 j))]) hx hb dX7_suspect_90 hl (k := 6) rfl (by decide) (by decide) rfl (fun ls hl => ?_)
              refine lv_goto (tgt := 7) hx hb dX7_suspect_93 (by decide) ?_
              exact ih7 (k + 1) (nI k) ((absS ((c.I 9 k) - (slS c j))) + (absS ((c.I 10 k) - (rdS c j)))) (by first | rfl | assumption | omega | (simp [c_16, c_67, c_72, c_78]; done) | (simp_all [c_16, c_67, c_72, c_78]; done)) (by first | (rw [h1]; simp only [suF]; rw [if_neg (by simp [diS, ← h1, ← h2, c_16, c_67, c_72, c_78])]) | (simp only [suF]; rw [if_pos (by simp [diS, ← h1, ← h2, c_16, c_67, c_72, c_78])])) (by first | (rw [h2]; simp only [suF]; rw [if_neg (by simp [diS, ← h1, ← h2, c_16, c_67, c_72, c_78])]) | (simp only [suF]; rw [if_pos (by simp [diS, ← h1, ← h2, c_16, c_67, c_72, c_78])]; rfl)) (by omega) _ (lv_sub hl [5, 6, 2, 1, 0] rfl)
            · skip
              refine lv_goto (tgt := 90) hx hb dX7_suspect_81 (by decide) ?_
              refine lv_iincN (v := 1) (lv' := [(4, .int (nI (k + 1))), (6, .int ((absS ((c.I 9 k) - (slS c j))) + (absS ((c.I 10 k) - (rdS c j))))), (5, .ref (ad 5 k)), (0, .ref (ad 0 0)), (1, .ref (ad 7 j)), (2, .int b2), (3, .int m2)]) hx hb dX7_suspect_90 hl (k := 6) rfl (by decide) (by decide) rfl (fun ls hl => ?_)
              refine lv_goto (tgt := 7) hx hb dX7_suspect_93 (by decide) ?_
              exact ih7 (k + 1) b2 m2 (by first | rfl | assumption | omega | (simp [c_16, c_67, c_72, c_78]; done) | (simp_all [c_16, c_67, c_72, c_78]; done)) (by first | (rw [h1]; simp only [suF]; rw [if_neg (by simp [diS, ← h1, ← h2, c_16, c_67, c_72, c_78])]) | (simp only [suF]; rw [if_pos (by simp [diS, ← h1, ← h2, c_16, c_67, c_72, c_78])])) (by first | (rw [h2]; simp only [suF]; rw [if_neg (by simp [diS, ← h1, ← h2, c_16, c_67, c_72, c_78])]) | (simp only [suF]; rw [if_pos (by simp [diS, ← h1, ← h2, c_16, c_67, c_72, c_78])]; rfl)) (by omega) _ (lv_sub hl [3, 4, 5, 6, 0] rfl)
  exact lp7 (c.R 10 1 - 0 + 1) 0 (-1) (nI 0) (by first | rfl | assumption | omega | (simp []; done) | (simp_all []; done)) (rfl) (rfl) (Nat.lt_succ_self _) _ (lv_sub hl [3, 4, 2, 1, 0] rfl)
set_option maxHeartbeats 4000000 in
set_option maxRecDepth 100000 in
theorem mX7_seenLayers (l : Launch) {E : En} {c : Cy} {th : Int32} {ly : Ly} {L : List Nat} {ad : Nat → Nat → Nat} {H : Heap} (hX : PM E c th ly L ad H) (sn : Bool)  : RoI l yX7_seenLayers cX7_seenLayers 5 .int (rmk 4 0 0 90) [.ref (ad 0 0), .int (bI sn)] E H (nI (cntN (slM c sn) (c.R 10 2))) := by
  obtain ⟨hP, hly, hLb, wf, eq0, eq1, eq2⟩ := id hX
  refine ro_of (by decide) (Nat.le_of_ble_eq_true rfl) ?_
  intro p e s m below meth co ls hx hb hr hml hown hlocks hnm hC hU hl
  have hS : va_S noA s.heap H [] := by rw [hU]; exact va_S.rf
  have hAb : ∀ q, noA q → bA E q := fun _ h => h.elim
  have hl : lv_has ls 5 [(0, .ref (ad 0 0)), (1, .int (bI sn))] := hl
  refine lv_iconstN hx hb 0 dX7_seenLayers_0 (by decide) ?_
  refine lv_istore_n (lv' := [(2, .int (nI 0)), (0, .ref (ad 0 0)), (1, .int (bI sn))]) hx hb dX7_seenLayers_1 rfl hl (by decide) rfl (fun ls hl => ?_)
  refine lv_iconstN hx hb 0 dX7_seenLayers_2 (by decide) ?_
  refine lv_istore_n (lv' := [(3, .int (nI 0)), (2, .int (nI 0)), (0, .ref (ad 0 0)), (1, .int (bI sn))]) hx hb dX7_seenLayers_3 rfl hl (by decide) rfl (fun ls hl => ?_)
  have lp4 : ∀ fu : Nat, ∀ (k a : Nat), k ≤ c.R 10 2 → a = cntN (slM c sn) k → c.R 10 2 - k < fu → ∀ ls : Array Slot, lv_has ls 5 [(0, .ref (ad 0 0)), (1, .int (bI sn)), (2, .int (nI a)), (3, .int (nI k))] → W p l e (rmk 4 0 0 90) s m ([.ref (ad 0 0), .int (bI sn)] : List Value).toArray below meth co H [] 0 0 (MQ below (QiR (nI (cntN (slM c sn) (c.R 10 2))) H) ([.ref (ad 0 0), .int (bI sn)] : List Value).toArray s 0 0 noA) (F0 m 4 ls []) := by
    intro fu
    induction fu with
    | zero => intro k a hk ha hfu; exact absurd hfu (Nat.not_lt_zero _)
    | succ fu ih4 =>
      intro k a hk ha hfu ls hl
      refine lv_iload_n hx hb dX7_seenLayers_4 rfl (lv_at hl 3 rfl) ?_
      refine lv_aload_n hx hb dX7_seenLayers_5 rfl (lv_at hl 0 rfl) ?_
      refine pi_get hx hb hC hown hP fL_X7_23 0 0 cM_0 (v := .ref (ad 1 2)) rfl dX7_seenLayers_6 ?_
      refine ro_V (As := []) (h0 := ad 1 2) (rest := [.int (nI k)]) (v := nI (c.R 10 2)) hx hb hml hown hC hS hAb (mJ_size l hP 2 (cM_1 (by decide))) kV_X7_33 ⟨rfl, rfl⟩ ⟨Nat.le_of_ble_eq_true rfl, Nat.le_of_ble_eq_true rfl⟩ (hP.recv hC (cM_1 (i := 2) (by decide)) rfl) rfl hl (Nat.le_of_ble_eq_true rfl) ⟨Nat.zero_le _, Nat.zero_le _⟩ dX7_seenLayers_9 ?_
      have g_1 := wf.sl
      have g_2 := wf.nl
      refine lv_icmpN_ge (tgt := 91) hx hb dX7_seenLayers_12 (by decide) (by omega) (by omega) (fun c_12 => ?_) (fun c_12 => ?_)
      · skip
        refine lv_iload_n hx hb dX7_seenLayers_91 rfl (lv_at hl 2 rfl) ?_
        exact ro_iret (x := nI a) hx hb hr hlocks hU (by first | (rw [ha, show k = c.R 10 2 by omega]; done) | (rw [ha, show k = c.R 10 2 by omega]; rfl)) dX7_seenLayers_92
      · skip
        refine lv_iload_n hx hb dX7_seenLayers_15 rfl (lv_at hl 1 rfl) ?_
        refine lv_bif_eq (tgt := 37) hx hb dX7_seenLayers_16 (by decide) (fun c_16 => ?_) (fun c_16 => ?_)
        · skip
          refine lv_iconst (v := -1) hx hb dX7_seenLayers_37 (by decide) ?_
          refine lv_istore (lv' := [(4, .int (-1)), (0, .ref (ad 0 0)), (1, .int (bI sn)), (2, .int (nI a)), (3, .int (nI k))]) hx hb dX7_seenLayers_38 hl (by decide) rfl (fun ls hl => ?_)
          refine lv_iload_n hx hb dX7_seenLayers_40 rfl (lv_at hl 3 rfl) ?_
          refine lv_aload_n hx hb dX7_seenLayers_41 rfl (lv_at hl 1 rfl) ?_
          refine lv_iload_n hx hb dX7_seenLayers_42 rfl (lv_at hl 4 rfl) ?_
          refine ro_V (As := [.int (nI k)]) (h0 := ad 0 0) (rest := [.int (nI a)]) (v := nI (seenS c k)) hx hb hml hown hC hS hAb (mX7_seen l hX k (by first | assumption | omega)) kV_X7_197 ⟨rfl, rfl⟩ ⟨Nat.le_of_ble_eq_true rfl, Nat.le_of_ble_eq_true rfl⟩ (hP.recv hC cM_0 rfl) rfl hl (Nat.le_of_ble_eq_true rfl) ⟨Nat.zero_le _, Nat.zero_le _⟩ dX7_seenLayers_43 ?_
          have g_3 := seen_le wf (j := k) (by first | assumption | omega)
          refine lv_ifN_le (tgt := 82) hx hb dX7_seenLayers_46 (by decide) (by omega) (fun c_46 => ?_) (fun c_46 => ?_)
          · skip
            refine lv_iconstN hx hb 0 dX7_seenLayers_82 (by decide) ?_
            refine lv_iaddN hx hb dX7_seenLayers_83 ?_
            refine lv_istore_n (lv' := [(2, .int (nI (a + 0))), (4, .int (-1)), (0, .ref (ad 0 0)), (1, .int (bI sn)), (3, .int (nI k))]) hx hb dX7_seenLayers_84 rfl hl (by decide) rfl (fun ls hl => ?_)
            refine lv_iincN (v := 1) (lv' := [(3, .int (nI (k + 1))), (2, .int (nI (a + 0))), (4, .int (-1)), (0, .ref (ad 0 0)), (1, .int (bI sn))]) hx hb dX7_seenLayers_85 hl (k := 4) rfl (by decide) (by decide) rfl (fun ls hl => ?_)
            refine lv_goto (tgt := 4) hx hb dX7_seenLayers_88 (by decide) ?_
            exact ih4 (k + 1) (a + 0) (by first | rfl | assumption | omega | (simp [slM, ha, c_12, c_16, c_46]; done) | (simp_all [slM, ha, c_12, c_16, c_46]; done)) (by first | exact (congrArg (· + 1) ha).trans (cntN_t (by simp [slM, ha, c_12, c_16, c_46])).symm | exact ha.trans (cntN_f (by simp [slM, ha, c_12, c_16, c_46])).symm) (by omega) _ (lv_sub hl [3, 4, 1, 0] rfl)
          · skip
            refine lv_iload_n hx hb dX7_seenLayers_49 rfl (lv_at hl 2 rfl) ?_
            refine lv_bif_eq (tgt := 78) hx hb dX7_seenLayers_50 (by decide) (fun c_50 => ?_) (fun c_50 => ?_)
            · skip
              refine lv_iconstN hx hb 1 dX7_seenLayers_78 (by decide) ?_
              refine lv_goto (tgt := 83) hx hb dX7_seenLayers_79 (by decide) ?_
              refine lv_iaddN hx hb dX7_seenLayers_83 ?_
              refine lv_istore_n (lv' := [(2, .int (nI (a + 1))), (4, .int (-1)), (0, .ref (ad 0 0)), (1, .int (bI sn)), (3, .int (nI k))]) hx hb dX7_seenLayers_84 rfl hl (by decide) rfl (fun ls hl => ?_)
              refine lv_iincN (v := 1) (lv' := [(3, .int (nI (k + 1))), (2, .int (nI (a + 1))), (4, .int (-1)), (0, .ref (ad 0 0)), (1, .int (bI sn))]) hx hb dX7_seenLayers_85 hl (k := 4) rfl (by decide) (by decide) rfl (fun ls hl => ?_)
              refine lv_goto (tgt := 4) hx hb dX7_seenLayers_88 (by decide) ?_
              exact ih4 (k + 1) (a + 1) (by first | rfl | assumption | omega | (simp [slM, ha, c_12, c_16, c_46, c_50]; done) | (simp_all [slM, ha, c_12, c_16, c_46, c_50]; done)) (by first | exact (congrArg (· + 1) ha).trans (cntN_t (by simp [slM, ha, c_12, c_16, c_46, c_50])).symm | exact ha.trans (cntN_f (by simp [slM, ha, c_12, c_16, c_46, c_50])).symm) (by omega) _ (lv_sub hl [3, 4, 1, 0] rfl)
            · skip
              exact absurd (c_50.symm.trans c_16) (by decide)
        · skip
          refine lv_aload_n hx hb dX7_seenLayers_19 rfl (lv_at hl 0 rfl) ?_
          refine lv_aload_n hx hb dX7_seenLayers_20 rfl (lv_at hl 0 rfl) ?_
          refine pi_get hx hb hC hown hP fL_X7_23 0 0 cM_0 (v := .ref (ad 1 2)) rfl dX7_seenLayers_21 ?_
          refine lv_iload_n hx hb dX7_seenLayers_24 rfl (lv_at hl 3 rfl) ?_
          refine ro_VR (As := [.int (nI k)]) (h0 := ad 1 2) (rest := [.ref (ad 0 0)]) (v := some (ad 7 k)) hx hb hml hown hC hS hAb (mJ_get l hP 2 (cM_1 (by decide)) (fun h9 => cM_2 (by decide) h9) (hly 2 (by decide)) k (by first | assumption | omega)) kV_X7_63 ⟨rfl, rfl⟩ ⟨Nat.le_of_ble_eq_true rfl, Nat.le_of_ble_eq_true rfl⟩ (hP.recv hC (cM_1 (i := 2) (by decide)) rfl) rfl hl (Nat.le_of_ble_eq_true rfl) ⟨Nat.zero_le _, Nat.zero_le _⟩ dX7_seenLayers_25 ?_
          have hg_4 : k < c.R 11 2 := by have := wf.sl; omega
          refine pi_cast (nm := "") hx hb hC hown hP 7 k (cM_7 hg_4) rfl wCl_X7_85 dX7_seenLayers_28 ?_
          refine ro_V (As := [.ref (ad 7 k)]) (h0 := ad 0 0) (rest := []) (v := suS c k) hx hb hml hown hC hS hAb (mX7_suspect l hX k hg_4) kV_X7_244 ⟨rfl, rfl⟩ ⟨Nat.le_of_ble_eq_true rfl, Nat.le_of_ble_eq_true rfl⟩ (hP.recv hC cM_0 rfl) rfl hl (Nat.le_of_ble_eq_true rfl) ⟨Nat.zero_le _, Nat.zero_le _⟩ dX7_seenLayers_31 ?_
          refine lv_goto (tgt := 38) hx hb dX7_seenLayers_34 (by decide) ?_
          refine lv_istore (lv' := [(4, .int (suS c k)), (0, .ref (ad 0 0)), (1, .int (bI sn)), (2, .int (nI a)), (3, .int (nI k))]) hx hb dX7_seenLayers_38 hl (by decide) rfl (fun ls hl => ?_)
          refine lv_iload_n hx hb dX7_seenLayers_40 rfl (lv_at hl 3 rfl) ?_
          refine lv_aload_n hx hb dX7_seenLayers_41 rfl (lv_at hl 1 rfl) ?_
          refine lv_iload_n hx hb dX7_seenLayers_42 rfl (lv_at hl 4 rfl) ?_
          refine ro_V (As := [.int (nI k)]) (h0 := ad 0 0) (rest := [.int (nI a)]) (v := nI (seenS c k)) hx hb hml hown hC hS hAb (mX7_seen l hX k hg_4) kV_X7_197 ⟨rfl, rfl⟩ ⟨Nat.le_of_ble_eq_true rfl, Nat.le_of_ble_eq_true rfl⟩ (hP.recv hC cM_0 rfl) rfl hl (Nat.le_of_ble_eq_true rfl) ⟨Nat.zero_le _, Nat.zero_le _⟩ dX7_seenLayers_43 ?_
          have g_5 := seen_le wf (j := k) hg_4
          refine lv_ifN_le (tgt := 82) hx hb dX7_seenLayers_46 (by decide) (by omega) (fun c_46 => ?_) (fun c_46 => ?_)
          · skip
            refine lv_iconstN hx hb 0 dX7_seenLayers_82 (by decide) ?_
            refine lv_iaddN hx hb dX7_seenLayers_83 ?_
            refine lv_istore_n (lv' := [(2, .int (nI (a + 0))), (4, .int (suS c k)), (0, .ref (ad 0 0)), (1, .int (bI sn)), (3, .int (nI k))]) hx hb dX7_seenLayers_84 rfl hl (by decide) rfl (fun ls hl => ?_)
            refine lv_iincN (v := 1) (lv' := [(3, .int (nI (k + 1))), (2, .int (nI (a + 0))), (4, .int (suS c k)), (0, .ref (ad 0 0)), (1, .int (bI sn))]) hx hb dX7_seenLayers_85 hl (k := 4) rfl (by decide) (by decide) rfl (fun ls hl => ?_)
            refine lv_goto (tgt := 4) hx hb dX7_seenLayers_88 (by decide) ?_
            exact ih4 (k + 1) (a + 0) (by first | rfl | assumption | omega | (simp [slM, ha, c_12, c_16, c_46]; done) | (simp_all [slM, ha, c_12, c_16, c_46]; done)) (by first | exact (congrArg (· + 1) ha).trans (cntN_t (by simp [slM, ha, c_12, c_16, c_46])).symm | exact ha.trans (cntN_f (by simp [slM, ha, c_12, c_16, c_46])).symm) (by omega) _ (lv_sub hl [3, 4, 1, 0] rfl)
          · skip
            refine lv_iload_n hx hb dX7_seenLayers_49 rfl (lv_at hl 2 rfl) ?_
            refine lv_bif_eq (tgt := 78) hx hb dX7_seenLayers_50 (by decide) (fun c_50 => ?_) (fun c_50 => ?_)
            · skip
              exact absurd (c_50.symm.trans c_16) (by decide)
            · skip
              refine lv_iload hx hb dX7_seenLayers_53 (lv_at hl 0 rfl) ?_
              refine lv_iconst (v := -1) hx hb dX7_seenLayers_55 (by decide) ?_
              refine lv_icmp_eq (tgt := 82) hx hb dX7_seenLayers_56 (by decide) (fun c_56 => ?_) (fun c_56 => ?_)
              · skip
                refine lv_iconstN hx hb 0 dX7_seenLayers_82 (by decide) ?_
                refine lv_iaddN hx hb dX7_seenLayers_83 ?_
                refine lv_istore_n (lv' := [(2, .int (nI (a + 0))), (4, .int (suS c k)), (0, .ref (ad 0 0)), (1, .int (bI sn)), (3, .int (nI k))]) hx hb dX7_seenLayers_84 rfl hl (by decide) rfl (fun ls hl => ?_)
                refine lv_iincN (v := 1) (lv' := [(3, .int (nI (k + 1))), (2, .int (nI (a + 0))), (4, .int (suS c k)), (0, .ref (ad 0 0)), (1, .int (bI sn))]) hx hb dX7_seenLayers_85 hl (k := 4) rfl (by decide) (by decide) rfl (fun ls hl => ?_)
                refine lv_goto (tgt := 4) hx hb dX7_seenLayers_88 (by decide) ?_
                exact ih4 (k + 1) (a + 0) (by first | rfl | assumption | omega | (simp [slM, ha, c_12, c_16, c_46, c_50, c_56]; done) | (simp_all [slM, ha, c_12, c_16, c_46, c_50, c_56]; done)) (by first | exact (congrArg (· + 1) ha).trans (cntN_t (by simp [slM, ha, c_12, c_16, c_46, c_50, c_56])).symm | exact ha.trans (cntN_f (by simp [slM, ha, c_12, c_16, c_46, c_50, c_56])).symm) (by omega) _ (lv_sub hl [3, 4, 1, 0] rfl)
              · skip
                refine lv_iload hx hb dX7_seenLayers_59 (lv_at hl 0 rfl) ?_
                refine lv_aload_n hx hb dX7_seenLayers_61 rfl (lv_at hl 1 rfl) ?_
                refine pi_get hx hb hC hown hP fL_X7_23 0 0 cM_0 (v := .ref (ad 1 2)) rfl dX7_seenLayers_62 ?_
                refine lv_iload_n hx hb dX7_seenLayers_65 rfl (lv_at hl 4 rfl) ?_
                refine ro_VR (As := [.int (nI k)]) (h0 := ad 1 2) (rest := [.int (suS c k), .int (nI a)]) (v := some (ad 7 k)) hx hb hml hown hC hS hAb (mJ_get l hP 2 (cM_1 (by decide)) (fun h9 => cM_2 (by decide) h9) (hly 2 (by decide)) k (by first | assumption | omega)) kV_X7_63 ⟨rfl, rfl⟩ ⟨Nat.le_of_ble_eq_true rfl, Nat.le_of_ble_eq_true rfl⟩ (hP.recv hC (cM_1 (i := 2) (by decide)) rfl) rfl hl (Nat.le_of_ble_eq_true rfl) ⟨Nat.zero_le _, Nat.zero_le _⟩ dX7_seenLayers_66 ?_
                have hg_6 : k < c.R 11 2 := by have := wf.sl; omega
                refine pi_cast (nm := "") hx hb hC hown hP 7 k (cM_7 hg_6) rfl wCl_X7_85 dX7_seenLayers_69 ?_
                refine pi_get hx hb hC hown hP fL_X7_84 7 k (cM_7 hg_6) (v := .int (nI (c.R 5 k))) rfl dX7_seenLayers_72 ?_
                have g_7 := wf.lh hg_6
                refine lv_icmp_eq (tgt := 82) hx hb dX7_seenLayers_75 (by decide) (fun c_75 => ?_) (fun c_75 => ?_)
                · skip
                  refine lv_iconstN hx hb 0 dX7_seenLayers_82 (by decide) ?_
                  refine lv_iaddN hx hb dX7_seenLayers_83 ?_
                  refine lv_istore_n (lv' := [(2, .int (nI (a + 0))), (4, .int (suS c k)), (0, .ref (ad 0 0)), (1, .int (bI sn)), (3, .int (nI k))]) hx hb dX7_seenLayers_84 rfl hl (by decide) rfl (fun ls hl => ?_)
                  refine lv_iincN (v := 1) (lv' := [(3, .int (nI (k + 1))), (2, .int (nI (a + 0))), (4, .int (suS c k)), (0, .ref (ad 0 0)), (1, .int (bI sn))]) hx hb dX7_seenLayers_85 hl (k := 4) rfl (by decide) (by decide) rfl (fun ls hl => ?_)
                  refine lv_goto (tgt := 4) hx hb dX7_seenLayers_88 (by decide) ?_
                  exact ih4 (k + 1) (a + 0) (by first | rfl | assumption | omega | (simp [slM, ha, c_12, c_16, c_46, c_50, c_56, c_75]; done) | (simp_all [slM, ha, c_12, c_16, c_46, c_50, c_56, c_75]; done)) (by first | exact (congrArg (· + 1) ha).trans (cntN_t (by simp [slM, ha, c_12, c_16, c_46, c_50, c_56, c_75])).symm | exact ha.trans (cntN_f (by simp [slM, ha, c_12, c_16, c_46, c_50, c_56, c_75])).symm) (by omega) _ (lv_sub hl [3, 4, 1, 0] rfl)
                · skip
                  refine lv_iconstN hx hb 1 dX7_seenLayers_78 (by decide) ?_
                  refine lv_goto (tgt := 83) hx hb dX7_seenLayers_79 (by decide) ?_
                  refine lv_iaddN hx hb dX7_seenLayers_83 ?_
                  refine lv_istore_n (lv' := [(2, .int (nI (a + 1))), (4, .int (suS c k)), (0, .ref (ad 0 0)), (1, .int (bI sn)), (3, .int (nI k))]) hx hb dX7_seenLayers_84 rfl hl (by decide) rfl (fun ls hl => ?_)
                  refine lv_iincN (v := 1) (lv' := [(3, .int (nI (k + 1))), (2, .int (nI (a + 1))), (4, .int (suS c k)), (0, .ref (ad 0 0)), (1, .int (bI sn))]) hx hb dX7_seenLayers_85 hl (k := 4) rfl (by decide) (by decide) rfl (fun ls hl => ?_)
                  refine lv_goto (tgt := 4) hx hb dX7_seenLayers_88 (by decide) ?_
                  exact ih4 (k + 1) (a + 1) (by first | rfl | assumption | omega | (simp [slM, ha, c_12, c_16, c_46, c_50, c_56, c_75]; done) | (simp_all [slM, ha, c_12, c_16, c_46, c_50, c_56, c_75]; done)) (by first | exact (congrArg (· + 1) ha).trans (cntN_t (by simp [slM, ha, c_12, c_16, c_46, c_50, c_56, c_75])).symm | exact ha.trans (cntN_f (by simp [slM, ha, c_12, c_16, c_46, c_50, c_56, c_75])).symm) (by omega) _ (lv_sub hl [3, 4, 1, 0] rfl)
  exact lp4 (c.R 10 2 - 0 + 1) 0 0 (by first | rfl | assumption | omega | (simp [slM]; done) | (simp_all [slM]; done)) (rfl) (Nat.lt_succ_self _) _ (lv_sub hl [2, 3, 1, 0] rfl)
set_option maxHeartbeats 4000000 in
set_option maxRecDepth 100000 in
theorem mX7_gains (l : Launch) {E : En} {c : Cy} {th : Int32} {ly : Ly} {L : List Nat} {ad : Nat → Nat → Nat} {H : Heap} (hX : PM E c th ly L ad H) (h i f w kd : Nat) (hh : h < c.R 11 1) (hi : i < c.R 11 0) (hw : f + w ≤ c.R 1 i) (hkd : kd < 4) : RoI l yX7_gains cX7_gains 9 .int (rmk 3 0 0 64) [.ref (ad 0 0), .int (nI h), .int (nI i), .int (nI f), .int (nI w), .int (nI kd)] E H (gmS c h i f w kd) := by
  obtain ⟨hP, hly, hLb, wf, eq0, eq1, eq2⟩ := id hX
  refine ro_of (by decide) (Nat.le_of_ble_eq_true rfl) ?_
  intro p e s m below meth co ls hx hb hr hml hown hlocks hnm hC hU hl
  have hS : va_S noA s.heap H [] := by rw [hU]; exact va_S.rf
  have hAb : ∀ q, noA q → bA E q := fun _ h => h.elim
  have hl : lv_has ls 9 [(0, .ref (ad 0 0)), (1, .int (nI h)), (2, .int (nI i)), (3, .int (nI f)), (4, .int (nI w)), (5, .int (nI kd))] := hl
  have gw := wf.wd hi
  have gh := wf.nh
  refine lv_iconstN hx hb 0 dX7_gains_0 (by decide) ?_
  refine lv_istore (lv' := [(6, .int (nI 0)), (0, .ref (ad 0 0)), (1, .int (nI h)), (2, .int (nI i)), (3, .int (nI f)), (4, .int (nI w)), (5, .int (nI kd))]) hx hb dX7_gains_1 hl (by decide) rfl (fun ls hl => ?_)
  refine lv_iload_n hx hb dX7_gains_3 rfl (lv_at hl 4 rfl) ?_
  refine lv_istore (lv' := [(7, .int (nI f)), (6, .int (nI 0)), (0, .ref (ad 0 0)), (1, .int (nI h)), (2, .int (nI i)), (3, .int (nI f)), (4, .int (nI w)), (5, .int (nI kd))]) hx hb dX7_gains_4 hl (by decide) rfl (fun ls hl => ?_)
  have lp6 : ∀ fu : Nat, ∀ (k : Nat) (a : Int32), f ≤ k → k ≤ f + w → a = smI (fun q => wtf kd - gaS c i (f + q) h) (k - f) → f + w - k < fu → ∀ ls : Array Slot, lv_has ls 9 [(0, .ref (ad 0 0)), (1, .int (nI h)), (2, .int (nI i)), (3, .int (nI f)), (4, .int (nI w)), (5, .int (nI kd)), (6, .int a), (7, .int (nI k))] → W p l e (rmk 3 0 0 64) s m ([.ref (ad 0 0), .int (nI h), .int (nI i), .int (nI f), .int (nI w), .int (nI kd)] : List Value).toArray below meth co H [] 0 0 (MQ below (QiR (gmS c h i f w kd) H) ([.ref (ad 0 0), .int (nI h), .int (nI i), .int (nI f), .int (nI w), .int (nI kd)] : List Value).toArray s 0 0 noA) (F0 m 6 ls []) := by
    intro fu
    induction fu with
    | zero => intro k a hk hk2 ha hfu; exact absurd hfu (Nat.not_lt_zero _)
    | succ fu ih6 =>
      intro k a hk hk2 ha hfu ls hl
      refine lv_iload hx hb dX7_gains_6 (lv_at hl 7 rfl) ?_
      refine lv_iload_n hx hb dX7_gains_8 rfl (lv_at hl 3 rfl) ?_
      refine lv_iload hx hb dX7_gains_9 (lv_at hl 4 rfl) ?_
      refine lv_iaddN hx hb dX7_gains_11 ?_
      refine lv_icmpN_ge (tgt := 100) hx hb dX7_gains_12 (by decide) (by omega) (by omega) (fun c_12 => ?_) (fun c_12 => ?_)
      · skip
        refine lv_iload hx hb dX7_gains_100 (lv_at hl 6 rfl) ?_
        exact ro_iret (x := a) hx hb hr hlocks hU (by rw [ha, show k - f = w by omega]; rfl) dX7_gains_102
      · skip
        refine lv_aload_n hx hb dX7_gains_15 rfl (lv_at hl 0 rfl) ?_
        refine pi_get hx hb hC hown hP fL_X7_16 0 0 cM_0 (v := .ref (ad 1 0)) rfl dX7_gains_16 ?_
        refine lv_iload_n hx hb dX7_gains_19 rfl (lv_at hl 2 rfl) ?_
        refine ro_VR (As := [.int (nI i)]) (h0 := ad 1 0) (rest := []) (v := some (ad 3 i)) hx hb hml hown hC hS hAb (mJ_get l hP 0 (cM_1 (by decide)) (fun h9 => cM_2 (by decide) h9) (hly 0 (by decide)) i (by first | assumption | omega)) kV_X7_63 ⟨rfl, rfl⟩ ⟨Nat.le_of_ble_eq_true rfl, Nat.le_of_ble_eq_true rfl⟩ (hP.recv hC (cM_1 (i := 0) (by decide)) rfl) rfl hl (Nat.le_of_ble_eq_true rfl) ⟨Nat.zero_le _, Nat.zero_le _⟩ dX7_gains_20 ?_
        have hg_1 : i < c.R 11 0 := by have := wf.sw; omega
        refine pi_cast (nm := "") hx hb hC hown hP 3 i (cM_3 hg_1) rfl wCl_X7_44 dX7_gains_23 ?_
        refine pi_get hx hb hC hown hP fL_X7_97 3 i (cM_3 hg_1) (v := .ref (ad 4 i)) rfl dX7_gains_26 ?_
        have g_2 := wf.wd hg_1
        refine lv_iload hx hb dX7_gains_29 (lv_at hl 7 rfl) ?_
        refine pi_iald hx hb hC hP 4 i (cM_4 hg_1) (j := k) (by first | assumption | omega) (by omega) dX7_gains_31 ?_
        rcases d_31 : c.sh i k with _ | j_31
        · skip
          have sd_31 : shI c i k = -1 := shI_n d_31
          rw [sd_31]
          refine lv_istore (lv' := [(8, .int (-1)), (0, .ref (ad 0 0)), (1, .int (nI h)), (2, .int (nI i)), (3, .int (nI f)), (4, .int (nI w)), (5, .int (nI kd)), (6, .int a), (7, .int (nI k))]) hx hb dX7_gains_32 hl (by decide) rfl (fun ls hl => ?_)
          refine lv_iload hx hb dX7_gains_34 (lv_at hl 7 rfl) ?_
          refine gt_get hx hb hC.2.2.1.2.2.1 hS hAb hown (hC.2.1.at (w := .fieldLink "WallcodeModel" 165 "WallcodeModel" "WEIGHTS" "[I") (List.mem_append_right _ (List.mem_of_getElem? (i := 1092) (by decide +kernel))) (by decide +kernel) _) dX7_gains_36 ?_
          refine lv_iload hx hb dX7_gains_39 (lv_at hl 6 rfl) ?_
          refine gt_ld hx hb hC.2.2.1.2.2.1 hS hAb (j := kd) (by omega) dX7_gains_41 ?_
          refine lv_iload hx hb dX7_gains_42 (lv_at hl 0 rfl) ?_
          refine lv_iconst (v := -1) hx hb dX7_gains_44 (by decide) ?_
          refine lv_icmp_eq (tgt := 89) hx hb dX7_gains_45 (by decide) (fun c_45 => ?_) (fun c_45 => ?_)
          · skip
            refine lv_iconstN hx hb 0 dX7_gains_89 (by decide) ?_
            refine lv_isub hx hb dX7_gains_90 ?_
            refine lv_iadd hx hb dX7_gains_91 ?_
            refine lv_istore (lv' := [(6, .int (a + ((wtf kd) - (nI 0)))), (8, .int (-1)), (0, .ref (ad 0 0)), (1, .int (nI h)), (2, .int (nI i)), (3, .int (nI f)), (4, .int (nI w)), (5, .int (nI kd)), (7, .int (nI k))]) hx hb dX7_gains_92 hl (by decide) rfl (fun ls hl => ?_)
            refine lv_iincN (v := 1) (lv' := [(7, .int (nI (k + 1))), (6, .int (a + ((wtf kd) - (nI 0)))), (8, .int (-1)), (0, .ref (ad 0 0)), (1, .int (nI h)), (2, .int (nI i)), (3, .int (nI f)), (4, .int (nI w)), (5, .int (nI kd))]) hx hb dX7_gains_94 hl (k := 8) rfl (by decide) (by decide) rfl (fun ls hl => ?_)
            refine lv_goto (tgt := 6) hx hb dX7_gains_97 (by decide) ?_
            exact ih6 (k + 1) (a + ((wtf kd) - (nI 0))) (by first | rfl | assumption | omega | (simp [c_12, d_31]; done) | (simp_all [c_12, d_31]; done)) (by first | rfl | assumption | omega | (simp [c_12, d_31]; done) | (simp_all [c_12, d_31]; done)) (by rw [ha]; refine Eq.trans ?_ (smR (g := fun z => wtf kd - gaS c i z h) hk).symm; simp [gaS, c_12, d_31]) (by omega) _ (lv_sub hl [3, 4, 5, 6, 7, 8, 1, 0] rfl)
          · skip
            exact absurd rfl c_45
        · skip
          have sd_31 : shI c i k = nI j_31 := shI_s d_31
          rw [sd_31]
          have hj_31 : j_31 < c.R 11 2 := wf.sj hg_1 (by first | assumption | omega) d_31
          have g_3 := wf.nl
          refine lv_istore (lv' := [(8, .int (nI j_31)), (0, .ref (ad 0 0)), (1, .int (nI h)), (2, .int (nI i)), (3, .int (nI f)), (4, .int (nI w)), (5, .int (nI kd)), (6, .int a), (7, .int (nI k))]) hx hb dX7_gains_32 hl (by decide) rfl (fun ls hl => ?_)
          refine lv_iload hx hb dX7_gains_34 (lv_at hl 7 rfl) ?_
          refine gt_get hx hb hC.2.2.1.2.2.1 hS hAb hown (hC.2.1.at (w := .fieldLink "WallcodeModel" 165 "WallcodeModel" "WEIGHTS" "[I") (List.mem_append_right _ (List.mem_of_getElem? (i := 1092) (by decide +kernel))) (by decide +kernel) _) dX7_gains_36 ?_
          refine lv_iload hx hb dX7_gains_39 (lv_at hl 6 rfl) ?_
          refine gt_ld hx hb hC.2.2.1.2.2.1 hS hAb (j := kd) (by omega) dX7_gains_41 ?_
          refine lv_iload hx hb dX7_gains_42 (lv_at hl 0 rfl) ?_
          refine lv_iconst (v := -1) hx hb dX7_gains_44 (by decide) ?_
          refine lv_icmp_eq (tgt := 89) hx hb dX7_gains_45 (by decide) (fun c_45 => ?_) (fun c_45 => ?_)
          · skip
            exact absurd c_45 (nI_m1 (by omega))
          · skip
            refine lv_aload_n hx hb dX7_gains_48 rfl (lv_at hl 1 rfl) ?_
            refine pi_get hx hb hC hown hP fL_X7_23 0 0 cM_0 (v := .ref (ad 1 2)) rfl dX7_gains_49 ?_
            refine lv_iload hx hb dX7_gains_52 (lv_at hl 0 rfl) ?_
            refine ro_VR (As := [.int (nI j_31)]) (h0 := ad 1 2) (rest := [.int (wtf kd), .int a]) (v := some (ad 7 j_31)) hx hb hml hown hC hS hAb (mJ_get l hP 2 (cM_1 (by decide)) (fun h9 => cM_2 (by decide) h9) (hly 2 (by decide)) j_31 (by first | assumption | omega)) kV_X7_63 ⟨rfl, rfl⟩ ⟨Nat.le_of_ble_eq_true rfl, Nat.le_of_ble_eq_true rfl⟩ (hP.recv hC (cM_1 (i := 2) (by decide)) rfl) rfl hl (Nat.le_of_ble_eq_true rfl) ⟨Nat.zero_le _, Nat.zero_le _⟩ dX7_gains_54 ?_
            have hg_4 : j_31 < c.R 11 2 := by have := wf.sl; omega
            refine pi_cast (nm := "") hx hb hC hown hP 7 j_31 (cM_7 hg_4) rfl wCl_X7_85 dX7_gains_57 ?_
            refine pi_get hx hb hC hown hP fL_X7_84 7 j_31 (cM_7 hg_4) (v := .int (nI (c.R 5 j_31))) rfl dX7_gains_60 ?_
            have g_5 := wf.lh hg_4
            refine lv_iload_n hx hb dX7_gains_63 rfl (lv_at hl 2 rfl) ?_
            refine lv_icmpN_ne (tgt := 89) hx hb dX7_gains_64 (by decide) (by omega) (by omega) (fun c_64 => ?_) (fun c_64 => ?_)
            · skip
              refine lv_iconstN hx hb 0 dX7_gains_89 (by decide) ?_
              refine lv_isub hx hb dX7_gains_90 ?_
              refine lv_iadd hx hb dX7_gains_91 ?_
              refine lv_istore (lv' := [(6, .int (a + ((wtf kd) - (nI 0)))), (8, .int (nI j_31)), (0, .ref (ad 0 0)), (1, .int (nI h)), (2, .int (nI i)), (3, .int (nI f)), (4, .int (nI w)), (5, .int (nI kd)), (7, .int (nI k))]) hx hb dX7_gains_92 hl (by decide) rfl (fun ls hl => ?_)
              refine lv_iincN (v := 1) (lv' := [(7, .int (nI (k + 1))), (6, .int (a + ((wtf kd) - (nI 0)))), (8, .int (nI j_31)), (0, .ref (ad 0 0)), (1, .int (nI h)), (2, .int (nI i)), (3, .int (nI f)), (4, .int (nI w)), (5, .int (nI kd))]) hx hb dX7_gains_94 hl (k := 8) rfl (by decide) (by decide) rfl (fun ls hl => ?_)
              refine lv_goto (tgt := 6) hx hb dX7_gains_97 (by decide) ?_
              exact ih6 (k + 1) (a + ((wtf kd) - (nI 0))) (by first | rfl | assumption | omega | (simp [c_12, d_31, c_64]; done) | (simp_all [c_12, d_31, c_64]; done)) (by first | rfl | assumption | omega | (simp [c_12, d_31, c_64]; done) | (simp_all [c_12, d_31, c_64]; done)) (by rw [ha]; refine Eq.trans ?_ (smR (g := fun z => wtf kd - gaS c i z h) hk).symm; simp [gaS, c_12, d_31, c_64]) (by omega) _ (lv_sub hl [3, 4, 5, 6, 7, 8, 1, 0] rfl)
            · skip
              refine gt_get hx hb hC.2.2.1.2.2.1 hS hAb hown (hC.2.1.at (w := .fieldLink "WallcodeModel" 165 "WallcodeModel" "WEIGHTS" "[I") (List.mem_append_right _ (List.mem_of_getElem? (i := 1092) (by decide +kernel))) (by decide +kernel) _) dX7_gains_67 ?_
              refine lv_aload_n hx hb dX7_gains_70 rfl (lv_at hl 1 rfl) ?_
              refine pi_get hx hb hC hown hP fL_X7_23 0 0 cM_0 (v := .ref (ad 1 2)) rfl dX7_gains_71 ?_
              refine lv_iload hx hb dX7_gains_74 (lv_at hl 0 rfl) ?_
              refine ro_VR (As := [.int (nI j_31)]) (h0 := ad 1 2) (rest := [.ref (E.2 7), .int (wtf kd), .int a]) (v := some (ad 7 j_31)) hx hb hml hown hC hS hAb (mJ_get l hP 2 (cM_1 (by decide)) (fun h9 => cM_2 (by decide) h9) (hly 2 (by decide)) j_31 (by first | assumption | omega)) kV_X7_63 ⟨rfl, rfl⟩ ⟨Nat.le_of_ble_eq_true rfl, Nat.le_of_ble_eq_true rfl⟩ (hP.recv hC (cM_1 (i := 2) (by decide)) rfl) rfl hl (Nat.le_of_ble_eq_true rfl) ⟨Nat.zero_le _, Nat.zero_le _⟩ dX7_gains_76 ?_
              have hg_6 : j_31 < c.R 11 2 := by have := wf.sl; omega
              refine pi_cast (nm := "") hx hb hC hown hP 7 j_31 (cM_7 hg_6) rfl wCl_X7_85 dX7_gains_79 ?_
              refine pi_get hx hb hC hown hP fL_X7_93 7 j_31 (cM_7 hg_6) (v := .int (nI (c.R 9 j_31))) rfl dX7_gains_82 ?_
              have g_7 := wf.lk hg_6
              refine gt_ld hx hb hC.2.2.1.2.2.1 hS hAb (j := c.R 9 j_31) (by omega) dX7_gains_85 ?_
              refine lv_goto (tgt := 90) hx hb dX7_gains_86 (by decide) ?_
              refine lv_isub hx hb dX7_gains_90 ?_
              refine lv_iadd hx hb dX7_gains_91 ?_
              refine lv_istore (lv' := [(6, .int (a + ((wtf kd) - (wtf (c.R 9 j_31))))), (8, .int (nI j_31)), (0, .ref (ad 0 0)), (1, .int (nI h)), (2, .int (nI i)), (3, .int (nI f)), (4, .int (nI w)), (5, .int (nI kd)), (7, .int (nI k))]) hx hb dX7_gains_92 hl (by decide) rfl (fun ls hl => ?_)
              refine lv_iincN (v := 1) (lv' := [(7, .int (nI (k + 1))), (6, .int (a + ((wtf kd) - (wtf (c.R 9 j_31))))), (8, .int (nI j_31)), (0, .ref (ad 0 0)), (1, .int (nI h)), (2, .int (nI i)), (3, .int (nI f)), (4, .int (nI w)), (5, .int (nI kd))]) hx hb dX7_gains_94 hl (k := 8) rfl (by decide) (by decide) rfl (fun ls hl => ?_)
              refine lv_goto (tgt := 6) hx hb dX7_gains_97 (by decide) ?_
              exact ih6 (k + 1) (a + ((wtf kd) - (wtf (c.R 9 j_31)))) (by first | rfl | assumption | omega | (simp [c_12, d_31, c_64]; done) | (simp_all [c_12, d_31, c_64]; done)) (by first | rfl | assumption | omega | (simp [c_12, d_31, c_64]; done) | (simp_all [c_12, d_31, c_64]; done)) (by rw [ha]; refine Eq.trans ?_ (smR (g := fun z => wtf kd - gaS c i z h) hk).symm; simp [gaS, c_12, d_31, c_64]) (by omega) _ (lv_sub hl [3, 4, 5, 6, 7, 8, 1, 0] rfl)
  exact lp6 (f + w - f + 1) f (nI 0) (by first | rfl | assumption | omega | (simp []; done) | (simp_all []; done)) (by first | rfl | assumption | omega | (simp []; done) | (simp_all []; done)) (by rw [Nat.sub_self]; rfl) (Nat.lt_succ_self _) _ (lv_sub hl [2, 3, 4, 5, 6, 7, 1, 0] rfl)
set_option maxHeartbeats 4000000 in
set_option maxRecDepth 100000 in
theorem mX7_nextBuffNow (l : Launch) {E : En} {c : Cy} {th : Int32} {ly : Ly} {L : List Nat} {ad : Nat → Nat → Nat} {H : Heap} (hX : PM E c th ly L ad H)   : RoI l yX7_nextBuffNow cX7_nextBuffNow 5 .int (rmk 6 0 0 134) [.ref (ad 0 0)] E H (nbS c) := by
  obtain ⟨hP, hly, hLb, wf, eq0, eq1, eq2⟩ := id hX
  refine ro_of (by decide) (Nat.le_of_ble_eq_true rfl) ?_
  intro p e s m below meth co ls hx hb hr hml hown hlocks hnm hC hU hl
  have hS : va_S noA s.heap H [] := by rw [hU]; exact va_S.rf
  have hAb : ∀ q, noA q → bA E q := fun _ h => h.elim
  have hl : lv_has ls 5 [(0, .ref (ad 0 0))] := hl
  refine lv_iconst (v := -1) hx hb dX7_nextBuffNow_0 (by decide) ?_
  refine lv_istore_n (lv' := [(1, .int (-1)), (0, .ref (ad 0 0))]) hx hb dX7_nextBuffNow_1 rfl hl (by decide) rfl (fun ls hl => ?_)
  refine lv_iconstN hx hb 0 dX7_nextBuffNow_2 (by decide) ?_
  refine lv_istore_n (lv' := [(2, .int (nI 0)), (1, .int (-1)), (0, .ref (ad 0 0))]) hx hb dX7_nextBuffNow_3 rfl hl (by decide) rfl (fun ls hl => ?_)
  refine lv_iconstN hx hb 0 dX7_nextBuffNow_4 (by decide) ?_
  refine lv_istore_n (lv' := [(3, .int (nI 0)), (2, .int (nI 0)), (1, .int (-1)), (0, .ref (ad 0 0))]) hx hb dX7_nextBuffNow_5 rfl hl (by decide) rfl (fun ls hl => ?_)
  have lp6 : ∀ fu : Nat, ∀ (k : Nat) (b2 m2 : Int32), k ≤ c.R 10 0 → b2 = (nbF c k).1 → m2 = (nbF c k).2 → c.R 10 0 - k < fu → ∀ ls : Array Slot, lv_has ls 5 [(0, .ref (ad 0 0)), (1, .int b2), (2, .int m2), (3, .int (nI k))] → W p l e (rmk 6 0 0 134) s m ([.ref (ad 0 0)] : List Value).toArray below meth co H [] 0 0 (MQ below (QiR (nbS c) H) ([.ref (ad 0 0)] : List Value).toArray s 0 0 noA) (F0 m 6 ls []) := by
    intro fu
    induction fu with
    | zero => intro k b2 m2 hk h1 h2 hfu; exact absurd hfu (Nat.not_lt_zero _)
    | succ fu ih6 =>
      intro k b2 m2 hk h1 h2 hfu ls hl
      refine lv_iload_n hx hb dX7_nextBuffNow_6 rfl (lv_at hl 3 rfl) ?_
      refine lv_aload_n hx hb dX7_nextBuffNow_7 rfl (lv_at hl 0 rfl) ?_
      refine pi_get hx hb hC hown hP fL_X7_16 0 0 cM_0 (v := .ref (ad 1 0)) rfl dX7_nextBuffNow_8 ?_
      refine ro_V (As := []) (h0 := ad 1 0) (rest := [.int (nI k)]) (v := nI (c.R 10 0)) hx hb hml hown hC hS hAb (mJ_size l hP 0 (cM_1 (by decide))) kV_X7_33 ⟨rfl, rfl⟩ ⟨Nat.le_of_ble_eq_true rfl, Nat.le_of_ble_eq_true rfl⟩ (hP.recv hC (cM_1 (i := 0) (by decide)) rfl) rfl hl (Nat.le_of_ble_eq_true rfl) ⟨Nat.zero_le _, Nat.zero_le _⟩ dX7_nextBuffNow_11 ?_
      have g_1 := wf.sw
      have g_2 := wf.nw
      refine lv_icmpN_ge (tgt := 71) hx hb dX7_nextBuffNow_14 (by decide) (by omega) (by omega) (fun c_14 => ?_) (fun c_14 => ?_)
      · skip
        refine lv_iload_n hx hb dX7_nextBuffNow_71 rfl (lv_at hl 1 rfl) ?_
        exact ro_iret (x := b2) hx hb hr hlocks hU (by rw [h1, show k = c.R 10 0 by omega]; rfl) dX7_nextBuffNow_72
      · skip
        refine lv_aload_n hx hb dX7_nextBuffNow_17 rfl (lv_at hl 0 rfl) ?_
        refine pi_get hx hb hC hown hP fL_X7_16 0 0 cM_0 (v := .ref (ad 1 0)) rfl dX7_nextBuffNow_18 ?_
        refine lv_iload_n hx hb dX7_nextBuffNow_21 rfl (lv_at hl 3 rfl) ?_
        refine ro_VR (As := [.int (nI k)]) (h0 := ad 1 0) (rest := []) (v := some (ad 3 k)) hx hb hml hown hC hS hAb (mJ_get l hP 0 (cM_1 (by decide)) (fun h9 => cM_2 (by decide) h9) (hly 0 (by decide)) k (by first | assumption | omega)) kV_X7_63 ⟨rfl, rfl⟩ ⟨Nat.le_of_ble_eq_true rfl, Nat.le_of_ble_eq_true rfl⟩ (hP.recv hC (cM_1 (i := 0) (by decide)) rfl) rfl hl (Nat.le_of_ble_eq_true rfl) ⟨Nat.zero_le _, Nat.zero_le _⟩ dX7_nextBuffNow_22 ?_
        have hg_3 : k < c.R 11 0 := by have := wf.sw; omega
        refine pi_cast (nm := "") hx hb hC hown hP 3 k (cM_3 hg_3) rfl wCl_X7_44 dX7_nextBuffNow_25 ?_
        refine pi_get hx hb hC hown hP fL_X7_194 3 k (cM_3 hg_3) (v := .int (c.I 2 k)) rfl dX7_nextBuffNow_28 ?_
        refine lv_aload_n hx hb dX7_nextBuffNow_31 rfl (lv_at hl 0 rfl) ?_
        refine lv_iload_n hx hb dX7_nextBuffNow_32 rfl (lv_at hl 3 rfl) ?_
        refine ro_V (As := [.int (nI k)]) (h0 := ad 0 0) (rest := [.int (c.I 2 k)]) (v := nI (ctbS c k)) hx hb hml hown hC hS hAb (mX7_buffs l hX k hg_3) kV_X7_159 ⟨rfl, rfl⟩ ⟨Nat.le_of_ble_eq_true rfl, Nat.le_of_ble_eq_true rfl⟩ (hP.recv hC cM_0 rfl) rfl hl (Nat.le_of_ble_eq_true rfl) ⟨Nat.zero_le _, Nat.zero_le _⟩ dX7_nextBuffNow_33 ?_
        refine lv_imul hx hb dX7_nextBuffNow_36 ?_
        refine lv_istore (lv' := [(4, .int ((c.I 2 k) * (nI (ctbS c k)))), (0, .ref (ad 0 0)), (1, .int b2), (2, .int m2), (3, .int (nI k))]) hx hb dX7_nextBuffNow_37 hl (by decide) rfl (fun ls hl => ?_)
        refine lv_iload hx hb dX7_nextBuffNow_39 (lv_at hl 0 rfl) ?_
        refine lv_iload_n hx hb dX7_nextBuffNow_41 rfl (lv_at hl 3 rfl) ?_
        refine lv_icmp_le (tgt := 65) hx hb dX7_nextBuffNow_42 (by decide) (fun c_42 => ?_) (fun c_42 => ?_)
        · skip
          have c_42 := Int32.not_lt.mpr c_42
          refine lv_iincN (v := 1) (lv' := [(3, .int (nI (k + 1))), (4, .int ((c.I 2 k) * (nI (ctbS c k)))), (0, .ref (ad 0 0)), (1, .int b2), (2, .int m2)]) hx hb dX7_nextBuffNow_65 hl (k := 4) rfl (by decide) (by decide) rfl (fun ls hl => ?_)
          refine lv_goto (tgt := 6) hx hb dX7_nextBuffNow_68 (by decide) ?_
          exact ih6 (k + 1) b2 m2 (by first | rfl | assumption | omega | (simp [c_14, c_42]; done) | (simp_all [c_14, c_42]; done)) (by first | (rw [h1]; simp only [nbF]; rw [if_neg (by simp [eyS, ← h1, ← h2, c_14, c_42])]) | (simp only [nbF]; rw [if_pos (by simp [eyS, ← h1, ← h2, c_14, c_42])])) (by first | (rw [h2]; simp only [nbF]; rw [if_neg (by simp [eyS, ← h1, ← h2, c_14, c_42])]) | (simp only [nbF]; rw [if_pos (by simp [eyS, ← h1, ← h2, c_14, c_42])]; rfl)) (by omega) _ (lv_sub hl [2, 3, 4, 0] rfl)
        · skip
          have c_42 := Int32.not_le.mp c_42
          refine lv_aload_n hx hb dX7_nextBuffNow_45 rfl (lv_at hl 1 rfl) ?_
          refine lv_iload_n hx hb dX7_nextBuffNow_46 rfl (lv_at hl 4 rfl) ?_
          refine ro_V (As := [.int (nI k)]) (h0 := ad 0 0) (rest := []) (v := nI (ctbS c k)) hx hb hml hown hC hS hAb (mX7_buffs l hX k hg_3) kV_X7_159 ⟨rfl, rfl⟩ ⟨Nat.le_of_ble_eq_true rfl, Nat.le_of_ble_eq_true rfl⟩ (hP.recv hC cM_0 rfl) rfl hl (Nat.le_of_ble_eq_true rfl) ⟨Nat.zero_le _, Nat.zero_le _⟩ dX7_nextBuffNow_47 ?_
          refine lv_aload_n hx hb dX7_nextBuffNow_50 rfl (lv_at hl 1 rfl) ?_
          refine pi_get hx hb hC hown hP fL_X7_9 0 0 cM_0 (v := .int (c.I 0 0)) rfl dX7_nextBuffNow_51 ?_
          refine lv_icmp_le (tgt := 60) hx hb dX7_nextBuffNow_54 (by decide) (fun c_54 => ?_) (fun c_54 => ?_)
          · skip
            have c_54 := Int32.not_lt.mpr c_54
            refine lv_iload_n hx hb dX7_nextBuffNow_60 rfl (lv_at hl 4 rfl) ?_
            refine lv_istore_n (lv' := [(1, .int (nI k)), (4, .int ((c.I 2 k) * (nI (ctbS c k)))), (0, .ref (ad 0 0)), (2, .int m2), (3, .int (nI k))]) hx hb dX7_nextBuffNow_61 rfl hl (by decide) rfl (fun ls hl => ?_)
            refine lv_iload hx hb dX7_nextBuffNow_62 (lv_at hl 1 rfl) ?_
            refine lv_istore_n (lv' := [(2, .int ((c.I 2 k) * (nI (ctbS c k)))), (1, .int (nI k)), (4, .int ((c.I 2 k) * (nI (ctbS c k)))), (0, .ref (ad 0 0)), (3, .int (nI k))]) hx hb dX7_nextBuffNow_64 rfl hl (by decide) rfl (fun ls hl => ?_)
            refine lv_iincN (v := 1) (lv' := [(3, .int (nI (k + 1))), (2, .int ((c.I 2 k) * (nI (ctbS c k)))), (1, .int (nI k)), (4, .int ((c.I 2 k) * (nI (ctbS c k)))), (0, .ref (ad 0 0))]) hx hb dX7_nextBuffNow_65 hl (k := 4) rfl (by decide) (by decide) rfl (fun ls hl => ?_)
            refine lv_goto (tgt := 6) hx hb dX7_nextBuffNow_68 (by decide) ?_
            exact ih6 (k + 1) (nI k) ((c.I 2 k) * (nI (ctbS c k))) (by first | rfl | assumption | omega | (simp [c_14, c_42, c_54]; done) | (simp_all [c_14, c_42, c_54]; done)) (by first | (rw [h1]; simp only [nbF]; rw [if_neg (by simp [eyS, ← h1, ← h2, c_14, c_42, c_54])]) | (simp only [nbF]; rw [if_pos (by simp [eyS, ← h1, ← h2, c_14, c_42, c_54])])) (by first | (rw [h2]; simp only [nbF]; rw [if_neg (by simp [eyS, ← h1, ← h2, c_14, c_42, c_54])]) | (simp only [nbF]; rw [if_pos (by simp [eyS, ← h1, ← h2, c_14, c_42, c_54])]; rfl)) (by omega) _ (lv_sub hl [4, 2, 1, 0] rfl)
          · skip
            have c_54 := Int32.not_le.mp c_54
            refine lv_goto (tgt := 65) hx hb dX7_nextBuffNow_57 (by decide) ?_
            refine lv_iincN (v := 1) (lv' := [(3, .int (nI (k + 1))), (4, .int ((c.I 2 k) * (nI (ctbS c k)))), (0, .ref (ad 0 0)), (1, .int b2), (2, .int m2)]) hx hb dX7_nextBuffNow_65 hl (k := 4) rfl (by decide) (by decide) rfl (fun ls hl => ?_)
            refine lv_goto (tgt := 6) hx hb dX7_nextBuffNow_68 (by decide) ?_
            exact ih6 (k + 1) b2 m2 (by first | rfl | assumption | omega | (simp [c_14, c_42, c_54]; done) | (simp_all [c_14, c_42, c_54]; done)) (by first | (rw [h1]; simp only [nbF]; rw [if_neg (by simp [eyS, ← h1, ← h2, c_14, c_42, c_54])]) | (simp only [nbF]; rw [if_pos (by simp [eyS, ← h1, ← h2, c_14, c_42, c_54])])) (by first | (rw [h2]; simp only [nbF]; rw [if_neg (by simp [eyS, ← h1, ← h2, c_14, c_42, c_54])]) | (simp only [nbF]; rw [if_pos (by simp [eyS, ← h1, ← h2, c_14, c_42, c_54])]; rfl)) (by omega) _ (lv_sub hl [2, 3, 4, 0] rfl)
  exact lp6 (c.R 10 0 - 0 + 1) 0 (-1) (nI 0) (by first | rfl | assumption | omega | (simp []; done) | (simp_all []; done)) (rfl) (rfl) (Nat.lt_succ_self _) _ (lv_sub hl [3, 2, 1, 0] rfl)
set_option maxHeartbeats 4000000 in
set_option maxRecDepth 100000 in
theorem mX7_isCleaned (l : Launch) {E : En} {c : Cy} {th : Int32} {ly : Ly} {L : List Nat} {ad : Nat → Nat → Nat} {H : Heap} (hX : PM E c th ly L ad H) (i n : Nat) (hi : i < c.R 11 0) (hn : n ≤ 30) : RoI l yX7_isCleaned cX7_isCleaned 3 .boolean (rmk 0 0 0 0) [.ref (ad 0 0), .ref (ad 3 i), .int (nI n)] E H (bI (icS c i n)) := by
  obtain ⟨hP, hly, hLb, wf, eq0, eq1, eq2⟩ := id hX
  refine ro_of (by decide) (Nat.le_of_ble_eq_true rfl) ?_
  intro p e s m below meth co ls hx hb hr hml hown hlocks hnm hC hU hl
  have hS : va_S noA s.heap H [] := by rw [hU]; exact va_S.rf
  have hAb : ∀ q, noA q → bA E q := fun _ h => h.elim
  have hl : lv_has ls 3 [(0, .ref (ad 0 0)), (1, .ref (ad 3 i)), (2, .int (nI n))] := hl
  have gt := wf.nt
  have q1 := Nat.div_le_self (c.R 0 0) (c.R 2 i)
  have q2 := Nat.div_le_self (c.R 0 0 + n) (c.R 2 i)
  refine lv_aload_n hx hb dX7_isCleaned_0 rfl (lv_at hl 1 rfl) ?_
  refine pi_get hx hb hC hown hP fL_X7_212 3 i (cM_3 hi) (v := .int (nI (c.R 2 i))) rfl dX7_isCleaned_1 ?_
  have g_1 := wf.cl hi
  refine lv_ifN_ne (tgt := 9) hx hb dX7_isCleaned_4 (by decide) (by omega) (fun c_4 => ?_) (fun c_4 => ?_)
  · skip
    refine lv_aload_n hx hb dX7_isCleaned_9 rfl (lv_at hl 0 rfl) ?_
    refine pi_get hx hb hC hown hP fL_X7_60 0 0 cM_0 (v := .int (nI (c.R 0 0))) rfl dX7_isCleaned_10 ?_
    have g_2 := wf.nt
    refine lv_iload_n hx hb dX7_isCleaned_13 rfl (lv_at hl 2 rfl) ?_
    refine lv_iaddN hx hb dX7_isCleaned_14 ?_
    refine lv_aload_n hx hb dX7_isCleaned_15 rfl (lv_at hl 1 rfl) ?_
    refine pi_get hx hb hC hown hP fL_X7_212 3 i (cM_3 hi) (v := .int (nI (c.R 2 i))) rfl dX7_isCleaned_16 ?_
    refine lv_idivN hx hb dX7_isCleaned_19 (by omega) (by omega) (by omega) ?_
    refine lv_aload_n hx hb dX7_isCleaned_20 rfl (lv_at hl 0 rfl) ?_
    refine pi_get hx hb hC hown hP fL_X7_60 0 0 cM_0 (v := .int (nI (c.R 0 0))) rfl dX7_isCleaned_21 ?_
    refine lv_aload_n hx hb dX7_isCleaned_24 rfl (lv_at hl 1 rfl) ?_
    refine pi_get hx hb hC hown hP fL_X7_212 3 i (cM_3 hi) (v := .int (nI (c.R 2 i))) rfl dX7_isCleaned_25 ?_
    refine lv_idivN hx hb dX7_isCleaned_28 (by omega) (by omega) (by omega) ?_
    refine lv_icmpN_le (tgt := 36) hx hb dX7_isCleaned_29 (by decide) (by omega) (by omega) (fun c_29 => ?_) (fun c_29 => ?_)
    · skip
      refine lv_iconstN hx hb 0 dX7_isCleaned_36 (by decide) ?_
      exact ro_zretB (b1 := false) hx hb hr hlocks hU (by decide) (by first | rfl | (simp [icS, c_4, c_29]; done) | (simp [icS, c_4, c_29]; omega) | (simp_all [icS, c_4, c_29]; done)) dX7_isCleaned_37
    · skip
      refine lv_iconstN hx hb 1 dX7_isCleaned_32 (by decide) ?_
      refine lv_goto (tgt := 37) hx hb dX7_isCleaned_33 (by decide) ?_
      exact ro_zretB (b1 := true) hx hb hr hlocks hU (by decide) (by first | rfl | (simp [icS, c_4, c_29]; done) | (simp [icS, c_4, c_29]; omega) | (simp_all [icS, c_4, c_29]; done)) dX7_isCleaned_37
  · skip
    refine lv_iconstN hx hb 0 dX7_isCleaned_7 (by decide) ?_
    exact ro_zretB (b1 := false) hx hb hr hlocks hU (by decide) (by first | rfl | (simp [icS, c_4]; done) | (simp [icS, c_4]; omega) | (simp_all [icS, c_4]; done)) dX7_isCleaned_8
set_option maxHeartbeats 4000000 in
set_option maxRecDepth 100000 in
theorem mX7_ofWallNow (l : Launch) {E : En} {c : Cy} {th : Int32} {ly : Ly} {L : List Nat} {ad : Nat → Nat → Nat} {H : Heap} (hX : PM E c th ly L ad H) (i : Nat) (v : Int32) (hi : i < c.R 11 0) : RoI l yX7_ofWallNow cX7_ofWallNow 4 .int (rmk 6 0 0 134) [.ref (ad 0 0), .int (nI i), .int v] E H (owS c i v) := by
  obtain ⟨hP, hly, hLb, wf, eq0, eq1, eq2⟩ := id hX
  refine ro_of (by decide) (Nat.le_of_ble_eq_true rfl) ?_
  intro p e s m below meth co ls hx hb hr hml hown hlocks hnm hC hU hl
  have hS : va_S noA s.heap H [] := by rw [hU]; exact va_S.rf
  have hAb : ∀ q, noA q → bA E q := fun _ h => h.elim
  have hl : lv_has ls 4 [(0, .ref (ad 0 0)), (1, .int (nI i)), (2, .int v)] := hl
  refine lv_aload_n hx hb dX7_ofWallNow_0 rfl (lv_at hl 0 rfl) ?_
  refine pi_get hx hb hC hown hP fL_X7_16 0 0 cM_0 (v := .ref (ad 1 0)) rfl dX7_ofWallNow_1 ?_
  refine lv_iload_n hx hb dX7_ofWallNow_4 rfl (lv_at hl 1 rfl) ?_
  refine ro_VR (As := [.int (nI i)]) (h0 := ad 1 0) (rest := []) (v := some (ad 3 i)) hx hb hml hown hC hS hAb (mJ_get l hP 0 (cM_1 (by decide)) (fun h9 => cM_2 (by decide) h9) (hly 0 (by decide)) i (by first | assumption | omega)) kV_X7_63 ⟨rfl, rfl⟩ ⟨Nat.le_of_ble_eq_true rfl, Nat.le_of_ble_eq_true rfl⟩ (hP.recv hC (cM_1 (i := 0) (by decide)) rfl) rfl hl (Nat.le_of_ble_eq_true rfl) ⟨Nat.zero_le _, Nat.zero_le _⟩ dX7_ofWallNow_5 ?_
  have hg_1 : i < c.R 11 0 := by have := wf.sw; omega
  refine pi_cast (nm := "") hx hb hC hown hP 3 i (cM_3 hg_1) rfl wCl_X7_44 dX7_ofWallNow_8 ?_
  refine lv_astore_n (lv' := [(3, .ref (ad 3 i)), (0, .ref (ad 0 0)), (1, .int (nI i)), (2, .int v)]) hx hb dX7_ofWallNow_11 rfl hl (by decide) rfl (fun ls hl => ?_)
  refine lv_iload_n hx hb dX7_ofWallNow_12 rfl (lv_at hl 3 rfl) ?_
  by_cases c_13 : v = nI 0
  · skip
    refine lv_tableIn (tgt := 52) (off := 39) hx hb dX7_ofWallNow_13 (by rw [c_13]; decide) (by rw [c_13]; decide) (by rw [c_13]; decide) (by decide) ?_
    refine lv_aload_n hx hb dX7_ofWallNow_52 rfl (lv_at hl 0 rfl) ?_
    refine pi_get hx hb hC hown hP fL_X7_97 3 i (cM_3 hg_1) (v := .ref (ad 4 i)) rfl dX7_ofWallNow_53 ?_
    have g_2 := wf.wd hg_1
    refine pi_alen hx hb hC hP 4 i 0 rfl (cM_4 hg_1) dX7_ofWallNow_56 ?_
    have g_3 := wf.wd hg_1
    exact ro_iret (x := nI (c.R 1 i)) hx hb hr hlocks hU (by first | (simp [owS, c_13]; done) | (simp only [owS]; rw [if_neg (by rw [c_13]; decide), if_neg (by rw [c_13]; decide), if_neg (by rw [c_13]; decide), if_neg (by rw [c_13]; decide), if_pos c_13]; rw [pk_sub (by have := mn_none wf hi; omega)]; congr 1; have := mn_none wf hi; omega) | (subst c_13; rfl)) dX7_ofWallNow_57
  have c_13n0 := c_13
  clear c_13
  by_cases c_13 : v = nI 1
  · skip
    refine lv_tableIn (tgt := 58) (off := 45) hx hb dX7_ofWallNow_13 (by rw [c_13]; decide) (by rw [c_13]; decide) (by rw [c_13]; decide) (by decide) ?_
    refine lv_aload_n hx hb dX7_ofWallNow_58 rfl (lv_at hl 0 rfl) ?_
    refine pi_get hx hb hC hown hP fL_X7_194 3 i (cM_3 hg_1) (v := .int (c.I 2 i)) rfl dX7_ofWallNow_59 ?_
    exact ro_iret (x := c.I 2 i) hx hb hr hlocks hU (by first | (simp [owS, c_13n0, c_13]; done) | (simp only [owS]; rw [if_neg (by rw [c_13]; decide), if_neg (by rw [c_13]; decide), if_neg (by rw [c_13]; decide), if_neg (by rw [c_13]; decide), if_pos c_13]; rw [pk_sub (by have := mn_none wf hi; omega)]; congr 1; have := mn_none wf hi; omega) | (subst c_13; rfl)) dX7_ofWallNow_62
  have c_13n1 := c_13
  clear c_13
  by_cases c_13 : v = nI 2
  · skip
    refine lv_tableIn (tgt := 63) (off := 50) hx hb dX7_ofWallNow_13 (by rw [c_13]; decide) (by rw [c_13]; decide) (by rw [c_13]; decide) (by decide) ?_
    refine lv_aload_n hx hb dX7_ofWallNow_63 rfl (lv_at hl 0 rfl) ?_
    refine pi_get hx hb hC hown hP fL_X7_215 3 i (cM_3 hg_1) (v := .int (c.I 3 i)) rfl dX7_ofWallNow_64 ?_
    exact ro_iret (x := c.I 3 i) hx hb hr hlocks hU (by first | (simp [owS, c_13n0, c_13n1, c_13]; done) | (simp only [owS]; rw [if_neg (by rw [c_13]; decide), if_neg (by rw [c_13]; decide), if_neg (by rw [c_13]; decide), if_neg (by rw [c_13]; decide), if_pos c_13]; rw [pk_sub (by have := mn_none wf hi; omega)]; congr 1; have := mn_none wf hi; omega) | (subst c_13; rfl)) dX7_ofWallNow_67
  have c_13n2 := c_13
  clear c_13
  by_cases c_13 : v = nI 3
  · skip
    refine lv_tableIn (tgt := 68) (off := 55) hx hb dX7_ofWallNow_13 (by rw [c_13]; decide) (by rw [c_13]; decide) (by rw [c_13]; decide) (by decide) ?_
    refine lv_aload_n hx hb dX7_ofWallNow_68 rfl (lv_at hl 0 rfl) ?_
    refine lv_aload_n hx hb dX7_ofWallNow_69 rfl (lv_at hl 1 rfl) ?_
    refine pi_get hx hb hC hown hP fL_X7_60 0 0 cM_0 (v := .int (nI (c.R 0 0))) rfl dX7_ofWallNow_70 ?_
    have g_4 := wf.nt
    refine ro_V (As := [.int (nI (c.R 0 0))]) (h0 := ad 3 i) (rest := []) (v := pcS c i (nI (c.R 0 0))) hx hb hml hown hC hS hAb (mX6_permitted l hX i (nI (c.R 0 0)) hg_1) kV_X7_67 ⟨rfl, rfl⟩ ⟨Nat.le_of_ble_eq_true rfl, Nat.le_of_ble_eq_true rfl⟩ (hP.recv hC (cM_3 hg_1) rfl) rfl hl (Nat.le_of_ble_eq_true rfl) ⟨Nat.zero_le _, Nat.zero_le _⟩ dX7_ofWallNow_73 ?_
    exact ro_iret (x := pcS c i (nI (c.R 0 0))) hx hb hr hlocks hU (by first | (simp [owS, c_13n0, c_13n1, c_13n2, c_13]; done) | (simp only [owS]; rw [if_neg (by rw [c_13]; decide), if_neg (by rw [c_13]; decide), if_neg (by rw [c_13]; decide), if_neg (by rw [c_13]; decide), if_pos c_13]; rw [pk_sub (by have := mn_none wf hi; omega)]; congr 1; have := mn_none wf hi; omega) | (subst c_13; rfl)) dX7_ofWallNow_76
  have c_13n3 := c_13
  clear c_13
  by_cases c_13 : v = nI 4
  · skip
    refine lv_tableIn (tgt := 77) (off := 64) hx hb dX7_ofWallNow_13 (by rw [c_13]; decide) (by rw [c_13]; decide) (by rw [c_13]; decide) (by decide) ?_
    refine lv_aload_n hx hb dX7_ofWallNow_77 rfl (lv_at hl 0 rfl) ?_
    refine pi_get hx hb hC hown hP fL_X7_97 3 i (cM_3 hg_1) (v := .ref (ad 4 i)) rfl dX7_ofWallNow_78 ?_
    have g_5 := wf.wd hg_1
    refine pi_alen hx hb hC hP 4 i 0 rfl (cM_4 hg_1) dX7_ofWallNow_81 ?_
    have g_6 := wf.wd hg_1
    refine lv_aload_n hx hb dX7_ofWallNow_82 rfl (lv_at hl 0 rfl) ?_
    refine lv_iconst (v := -1) hx hb dX7_ofWallNow_83 (by decide) ?_
    refine ro_V (As := [.int (-1)]) (h0 := ad 3 i) (rest := [.int (nI (c.R 1 i))]) (v := nI (mnS c i (-1))) hx hb hml hown hC hS hAb (mX6_many l hX i (-1) hg_1) kV_X7_177 ⟨rfl, rfl⟩ ⟨Nat.le_of_ble_eq_true rfl, Nat.le_of_ble_eq_true rfl⟩ (hP.recv hC (cM_3 hg_1) rfl) rfl hl (Nat.le_of_ble_eq_true rfl) ⟨Nat.zero_le _, Nat.zero_le _⟩ dX7_ofWallNow_84 ?_
    refine lv_isub hx hb dX7_ofWallNow_87 ?_
    exact ro_iret (x := (nI (c.R 1 i)) - (nI (mnS c i (-1)))) hx hb hr hlocks hU (by first | (simp [owS, c_13n0, c_13n1, c_13n2, c_13n3, c_13]; done) | (simp only [owS]; rw [if_neg (by rw [c_13]; decide), if_neg (by rw [c_13]; decide), if_neg (by rw [c_13]; decide), if_neg (by rw [c_13]; decide), if_pos c_13]; rw [pk_sub (by have := mn_none wf hi; omega)]; congr 1; have := mn_none wf hi; omega) | (subst c_13; rfl)) dX7_ofWallNow_88
  have c_13n4 := c_13
  clear c_13
  by_cases c_13 : v = nI 5
  · skip
    refine lv_tableIn (tgt := 89) (off := 76) hx hb dX7_ofWallNow_13 (by rw [c_13]; decide) (by rw [c_13]; decide) (by rw [c_13]; decide) (by decide) ?_
    refine lv_aload_n hx hb dX7_ofWallNow_89 rfl (lv_at hl 0 rfl) ?_
    refine pi_get hx hb hC hown hP fL_X7_194 3 i (cM_3 hg_1) (v := .int (c.I 2 i)) rfl dX7_ofWallNow_90 ?_
    refine lv_aload_n hx hb dX7_ofWallNow_93 rfl (lv_at hl 1 rfl) ?_
    refine lv_iload_n hx hb dX7_ofWallNow_94 rfl (lv_at hl 2 rfl) ?_
    refine ro_V (As := [.int (nI i)]) (h0 := ad 0 0) (rest := [.int (c.I 2 i)]) (v := nI (ctbS c i)) hx hb hml hown hC hS hAb (mX7_buffs l hX i hg_1) kV_X7_159 ⟨rfl, rfl⟩ ⟨Nat.le_of_ble_eq_true rfl, Nat.le_of_ble_eq_true rfl⟩ (hP.recv hC cM_0 rfl) rfl hl (Nat.le_of_ble_eq_true rfl) ⟨Nat.zero_le _, Nat.zero_le _⟩ dX7_ofWallNow_95 ?_
    refine lv_imul hx hb dX7_ofWallNow_98 ?_
    exact ro_iret (x := (c.I 2 i) * (nI (ctbS c i))) hx hb hr hlocks hU (by first | (simp [owS, c_13n0, c_13n1, c_13n2, c_13n3, c_13n4, c_13]; done) | (simp only [owS]; rw [if_neg (by rw [c_13]; decide), if_neg (by rw [c_13]; decide), if_neg (by rw [c_13]; decide), if_neg (by rw [c_13]; decide), if_pos c_13]; rw [pk_sub (by have := mn_none wf hi; omega)]; congr 1; have := mn_none wf hi; omega) | (subst c_13; rfl)) dX7_ofWallNow_99
  have c_13n5 := c_13
  clear c_13
  refine lv_tableOut (tgt := 100) hx hb dX7_ofWallNow_13 (sw_out 6 (fun k hk => by match k, hk with | 0, _ => exact c_13n0 | 1, _ => exact c_13n1 | 2, _ => exact c_13n2 | 3, _ => exact c_13n3 | 4, _ => exact c_13n4 | 5, _ => exact c_13n5)) (by decide) ?_
  refine lv_aload_n hx hb dX7_ofWallNow_100 rfl (lv_at hl 1 rfl) ?_
  refine lv_iload_n hx hb dX7_ofWallNow_101 rfl (lv_at hl 2 rfl) ?_
  refine ro_V (As := [.int (nI i)]) (h0 := ad 0 0) (rest := []) (v := nI (lsoS c i)) hx hb hml hown hC hS hAb (mX7_layersOn l hX i hg_1) kV_X7_218 ⟨rfl, rfl⟩ ⟨Nat.le_of_ble_eq_true rfl, Nat.le_of_ble_eq_true rfl⟩ (hP.recv hC cM_0 rfl) rfl hl (Nat.le_of_ble_eq_true rfl) ⟨Nat.zero_le _, Nat.zero_le _⟩ dX7_ofWallNow_102 ?_
  exact ro_iret (x := nI (lsoS c i)) hx hb hr hlocks hU (by first | (simp [owS, c_13n0, c_13n1, c_13n2, c_13n3, c_13n4, c_13n5]; done) | (simp only [owS]; rw [if_neg (by rw [c_13]; decide), if_neg (by rw [c_13]; decide), if_neg (by rw [c_13]; decide), if_neg (by rw [c_13]; decide), if_pos c_13]; rw [pk_sub (by have := mn_none wf hi; omega)]; congr 1; have := mn_none wf hi; omega) | (subst c_13; rfl)) dX7_ofWallNow_105
