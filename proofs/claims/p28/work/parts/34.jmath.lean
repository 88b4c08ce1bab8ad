/-! the arithmetic of growing -/
theorem wMax_J8 : .methodLink RJ8 194 Lib.Math.max.name ∈ WG := wg_t 235 (by decide +kernel) (by decide +kernel)
theorem wMax_AL : .methodLink RJx4a65c 79 Lib.Math.max.name ∈ WG := wg_t 269 (by decide +kernel) (by decide +kernel)
theorem wMaxS : .static Lib.Math.max.name ∈ WG := wg_t 236 (by decide +kernel) (by decide +kernel)
theorem wMaxC : .code Lib.Math.max.name Lib.Math.max.code 2 (some .int) ∈ WG := wg_t 237 (by decide +kernel) (by decide +kernel)
theorem wMin_J7 : .methodLink RJ7 304 Lib.Math.min.name ∈ WG := wg_t 263 (by decide +kernel) (by decide +kernel)
theorem wMinS : .static Lib.Math.min.name ∈ WG := wg_t 264 (by decide +kernel) (by decide +kernel)
theorem wMinC : .code Lib.Math.min.name Lib.Math.min.code 2 (some .int) ∈ WG := wg_t 265 (by decide +kernel) (by decide +kernel)
theorem nI_max {x y : Nat} (hx : x < 2 ^ 31) (hy : y < 2 ^ 31) : (if nI x < nI y then nI y else nI x) = nI (max x y) := by
  by_cases h : x < y
  · rw [if_pos ((nI_ltI hx hy).mpr h), Nat.max_eq_right (by omega)]
  · rw [if_neg (fun z => h ((nI_ltI hx hy).mp z)), Nat.max_eq_left (by omega)]
theorem nI_min {x y : Nat} (hx : x < 2 ^ 31) (hy : y < 2 ^ 31) : (if nI y < nI x then nI y else nI x) = nI (min x y) := by
  by_cases h : y < x
  · rw [if_pos ((nI_ltI hy hx).mpr h), Nat.min_eq_right (by omega)]
  · rw [if_neg (fun z => h ((nI_ltI hy hx).mp z)), Nat.min_eq_left (by omega)]
set_option maxHeartbeats 4000000 in
set_option maxRecDepth 100000 in
theorem mJ8_newLength_cabcc (l : Launch) {E : En} {H : Heap} (x y z : Nat) (hx1 : x < 1000) (hy1 : y < 1000) (hz1 : z < 1000) (h0 : 0 < x + max y z) : RoI l yJ8_newLength_cabcc cJ8_newLength_cabcc 4 .int (rmk 1 0 0 30) [.int (nI x), .int (nI y), .int (nI z)] E H (nI (x + max y z)) := by
  refine ro_of (by decide) (Nat.le_of_ble_eq_true rfl) ?_
  intro p e s m below meth co ls hx hb hr hml hown hlocks hnm hC hU hl
  have hS : va_S noA s.heap H [] := by rw [hU]; exact va_S.rf
  have hAb : ∀ q, noA q → bA E q := fun _ h => h.elim
  have hl : lv_has ls 4 [(0, .int (nI x)), (1, .int (nI y)), (2, .int (nI z))] := hl
  refine lv_iload_n hx hb dJ8_newLength_cabcc_0 rfl (lv_at hl 0 rfl) ?_
  refine lv_iload_n hx hb dJ8_newLength_cabcc_1 rfl (lv_at hl 1 rfl) ?_
  refine lv_iload_n hx hb dJ8_newLength_cabcc_2 rfl (lv_at hl 2 rfl) ?_
  refine va_mmax hx hb (hml.trans hl.1.symm) hown (hC.2.1.hts _ _ wMax_J8) (hC.2.1.hts _ _ wMaxS) (hC.2.1.hts _ _ wAbsI) (hC.2.1.hts _ _ wMaxC) (Nat.le_of_ble_eq_true rfl) (Nat.le_of_ble_eq_true rfl) (Nat.zero_le _) (Nat.zero_le _) (x := nI y) (y := nI z) dJ8_newLength_cabcc_3 ?_
  rw [nI_max (by omega) (by omega)]
  refine lv_iaddN hx hb dJ8_newLength_cabcc_6 ?_
  refine lv_istore_n (lv' := [(3, .int (nI (x + (max y z)))), (0, .int (nI x)), (1, .int (nI y)), (2, .int (nI z))]) hx hb dJ8_newLength_cabcc_7 rfl hl (by decide) rfl (fun ls hl => ?_)
  refine lv_iconstN hx hb 0 dJ8_newLength_cabcc_8 (by decide) ?_
  refine lv_iload_n hx hb dJ8_newLength_cabcc_9 rfl (lv_at hl 0 rfl) ?_
  refine lv_icmpN_ge (tgt := 21) hx hb dJ8_newLength_cabcc_10 (by decide) (by omega) (by omega) (fun c_10 => ?_) (fun c_10 => ?_)
  · skip
    exact absurd c_10 (by omega)
  · skip
    refine lv_iload_n hx hb dJ8_newLength_cabcc_13 rfl (lv_at hl 0 rfl) ?_
    refine lv_ldc (v := nI 2147483639) hx hb hown (hC.2.1.at (w := .constant "jdk/internal/util/ArraysSupport" 200 (nI 2147483639)) (List.mem_append_right _ (List.mem_of_getElem? (i := 238) (by decide +kernel))) (by decide +kernel) _) dJ8_newLength_cabcc_14 ?_
    refine lv_icmpN_gt (tgt := 21) hx hb dJ8_newLength_cabcc_16 (by decide) (by omega) (by omega) (fun c_16 => ?_) (fun c_16 => ?_)
    · skip
      exact absurd c_16 (by omega)
    · skip
      refine lv_iload_n hx hb dJ8_newLength_cabcc_19 rfl (lv_at hl 0 rfl) ?_
      exact ro_iret (x := nI (x + (max y z))) hx hb hr hlocks hU (by first | rfl | (simp [c_10, c_16]; done) | (simp [c_10, c_16]; omega) | (simp_all [c_10, c_16]; done)) dJ8_newLength_cabcc_20
