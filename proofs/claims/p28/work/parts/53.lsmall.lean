/-! the law's small methods -/
def blN (v : Int32) (n : Nat) : Nat := v.toBitVec.toNat % 2 ^ 31 % n
theorem blN_lt {v : Int32} {n : Nat} (h : 0 < n) : blN v n < n := Nat.mod_lt _ h
def clS (Ln : Nat) (xs : Nat → Int32) (k : Nat) : Int32 := if k < Ln then xs k else nI 790386105 * nI (k + 3)
theorem mean_cmp (v : Int32) {n : Nat} (h1 : 1 ≤ n) (h8 : n ≤ 8) : Op.cmpValue (Jvm.FP.dcmp (Jvm.FP.ddiv (Jvm.FP.i2d v) (Jvm.FP.i2d (nI n))) (Jvm.FP.ddiv (Jvm.FP.i2d v) (Jvm.FP.i2d (nI n)))) .l = 0 := by
  have key : ∀ d : Jvm.FP.Core.Datum, d ≠ .nan → Jvm.FP.Core.order d d = some .eq := by
    intro d hd
    have hc : ∀ i : Int, compare i i = .eq := fun i => by simp [compare, compareOfLessAndEq]
    cases d with
    | nan => exact absurd rfl hd
    | inf => exact congrArg some (hc _)
    | fin s c q => exact congrArg some (hc _)
  obtain ⟨t, k, r, hk, e⟩ := i2d_8 (n - 1) (by omega)
  rw [show n - 1 + 1 = n by omega] at e
  have hn : nn (Jvm.FP.Core.div Jvm.FP.Core.b64 (Jvm.FP.Core.i2d v).toNat (Jvm.FP.Core.i2d (nI n)).toNat) := by
    show nn (Jvm.FP.Core.encode Jvm.FP.Core.b64 (Jvm.FP.Core.quotient Jvm.FP.Core.b64 (Jvm.FP.Core.decode Jvm.FP.Core.b64 (Jvm.FP.Core.i2d v).toNat) (Jvm.FP.Core.decode Jvm.FP.Core.b64 (Jvm.FP.Core.i2d (nI n)).toNat)))
    rw [e]
    exact nn_quo (nn_dec (i2d_nn v)) t hk r
  have e1 : (UInt64.ofNat (Jvm.FP.Core.div Jvm.FP.Core.b64 (Jvm.FP.Core.i2d v).toNat (Jvm.FP.Core.i2d (nI n)).toNat)).toNat = Jvm.FP.Core.div Jvm.FP.Core.b64 (Jvm.FP.Core.i2d v).toNat (Jvm.FP.Core.i2d (nI n)).toNat := UInt64.toNat_ofNat_of_lt' (by simpa using hn.1)
  have e2 : Jvm.FP.dcmp (Jvm.FP.ddiv (Jvm.FP.i2d v) (Jvm.FP.i2d (nI n))) (Jvm.FP.ddiv (Jvm.FP.i2d v) (Jvm.FP.i2d (nI n))) = some .eq := by
    show Jvm.FP.Core.order (Jvm.FP.Core.decode Jvm.FP.Core.b64 (UInt64.ofNat (Jvm.FP.Core.div Jvm.FP.Core.b64 (Jvm.FP.Core.i2d v).toNat (Jvm.FP.Core.i2d (nI n)).toNat)).toNat) (Jvm.FP.Core.decode Jvm.FP.Core.b64 (UInt64.ofNat (Jvm.FP.Core.div Jvm.FP.Core.b64 (Jvm.FP.Core.i2d v).toNat (Jvm.FP.Core.i2d (nI n)).toNat)).toNat) = _
    rw [e1]
    exact key _ (nn_dec hn)
  rw [e2]; rfl
set_option maxHeartbeats 4000000 in
set_option maxRecDepth 100000 in
theorem mL_below (l : Launch) {E : En} {H : Heap} (v : Int32) (n : Nat) (h0 : 0 < n) (hn : n < 2 ^ 31) : RoI l yL_below cL_below 2 .int (rmk 0 0 0 0) [.int v, .int (nI n)] E H (nI (blN v n)) := by
  refine ro_of (by decide) (Nat.le_of_ble_eq_true rfl) ?_
  intro p e s m below meth co ls hx hb hr hml hown hlocks hnm hC hU hl
  have hl : lv_has ls 2 [(0, .int v), (1, .int (nI n))] := hl
  refine lv_iload_n hx hb dL_below_0 rfl (lv_at hl 0 rfl) ?_
  refine lv_ldc (v := 2147483647) hx hb hown (hC.2.1.at (w := .constant "WallcodeLaw" 7 2147483647) (List.mem_append_right _ (List.mem_of_getElem? (i := 661) (by decide +kernel))) (by decide +kernel) _) dL_below_1 ?_
  refine lv_iand hx hb dL_below_3 ?_
  rw [pk_and v (m := 2147483647) 31 (by decide)]
  refine lv_iload_n hx hb dL_below_4 rfl (lv_at hl 1 rfl) ?_
  refine lv_iremN hx hb dL_below_5 (Nat.mod_lt _ (by decide)) h0 hn ?_
  exact ro_iret (x := nI (v.toBitVec.toNat % 2 ^ 31 % n)) hx hb hr hlocks hU rfl dL_below_6
set_option maxHeartbeats 4000000 in
set_option maxRecDepth 100000 in
theorem mL_cell (l : Launch) {E : En} {H : Heap} (bb Ln : Nat) (xs : Nat → Int32) (k : Nat) (hk : k < 2 ^ 30) (hL : Ln < 2 ^ 30) : LxI l yL_cell cL_cell 2 (rmk 0 0 0 0) [.ref bb, .int (nI k)] E H bb Ln xs (clS Ln xs k) := by
  refine lx_of (by decide) (Nat.le_of_ble_eq_true rfl) ?_
  intro p e s m below meth co ls hx hb hr hml hown hlocks hC hU hX hbl hl
  have hl : lv_has ls 2 [(0, .ref bb), (1, .int (nI k))] := hl
  have hS : va_S noA H H [] := va_S.rf
  refine lv_iload_n hx hb dL_cell_0 rfl (lv_at hl 1 rfl) ?_
  refine lv_aload_n hx hb dL_cell_1 rfl (lv_at hl 0 rfl) ?_
  refine va_slen hx hb hX hbl (fun z => z) hS dL_cell_2 ?_
  refine lv_icmpN_ge (x := k) (y := Ln) (tgt := 12) hx hb dL_cell_3 (by decide) (by omega) (by omega) (fun c_3 => ?_) (fun c_3 => ?_)
  · refine lv_ldc (v := 790386105) hx hb hown (hC.2.1.at (w := .constant "WallcodeLaw" 8 790386105) (List.mem_append_right _ (List.mem_of_getElem? (i := 665) (by decide +kernel))) (by decide +kernel) _) dL_cell_12 ?_
    refine lv_iload_n hx hb dL_cell_14 rfl (lv_at hl 1 rfl) ?_
    refine lv_iconstN hx hb 3 dL_cell_15 (by decide) ?_
    refine lv_iaddN hx hb dL_cell_16 ?_
    refine lv_imul hx hb dL_cell_17 ?_
    exact ro_iret (x := 790386105 * nI (k + 3)) hx hb hr hlocks hU (by unfold clS; rw [if_neg (by omega)]; rfl) dL_cell_18
  · refine lv_aload_n hx hb dL_cell_6 rfl (lv_at hl 0 rfl) ?_
    refine lv_iload_n hx hb dL_cell_7 rfl (lv_at hl 1 rfl) ?_
    refine va_sld hx hb hX hbl (fun z => z) hS (vp_in_nI (show k < Ln by omega) (by omega)) dL_cell_8 ?_
    rw [nI_clamp (by omega)]
    refine lv_goto (tgt := 18) hx hb dL_cell_9 (by decide) ?_
    exact ro_iret (x := xs k) hx hb hr hlocks hU (by unfold clS; rw [if_pos (show k < Ln by omega)]) dL_cell_18
