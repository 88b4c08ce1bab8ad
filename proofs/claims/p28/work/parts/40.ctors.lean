/-! constructors -/
section CTR
variable {E : En} {L : List Nat} {ct : Nat → Nat → Option va_E} {ad : Nat → Nat → Nat} {H0 : Heap}
theorem ctu_ctu {k i : Nat} {a b : va_E} : ∀ x y, ctu ct k i b x y = ctu (ctu ct k i a) k i b x y := by
  intro x y
  unfold ctu
  by_cases h : x = k ∧ y = i
  · rw [if_pos h, if_pos h]
  · rw [if_neg h, if_neg h, if_neg h]
section CTS
variable {p : Program} {l : Launch} {e : Env} {R : Room} {s : State} {m : MethodId} {args : Array Value} {below : List Frame} {meth : Method} {c : Code} {H : Heap} {locs : List Loc} {cells slots : Nat} {Q : State → Prop} {cc : ByteArray} {pc : Nat} {ls : Array Slot} {rest : List Value} {A : Nat → Prop} {own ref C : String} {index ci n N : Nat} {T : u_T} {ty : FieldType}
theorem pc_put (hx : p.tables.exec = Jvm.exec) (hb : c.code = cc) (hC : Cs E s) (hown : s.vm.findClass own = some m.cls) {k i : Nat} {fs : List Value} (hX : PI E.1 L (ctu ct k i (.inr (ci, fs))) ad H) (hS : va_S A H0 H locs) (hA : ∀ q, q ∈ L → A q) (hf : FP own ref index ci C T N n ty) {v : Value} (hn : narrow ty v = v) (hfit : fits ty v = true) (hl : n < fs.length) (hdg : decode cc pc = .ok (.putfield index, 3))
    (kk : ∀ (H1 : Heap) (locs1 : List Loc), PI E.1 L (ctu ct k i (.inr (ci, fs.set n v))) ad H1 → va_S A H0 H1 locs1 → W p l e R s m args below meth c H1 locs1 cells slots Q (F0 m (pc + 3) ls rest)) : W p l e R s m args below meth c H locs cells slots Q (F0 m pc ls (v :: .ref (ad k i) :: rest)) :=
  pi_put hx hb hC hown hX hS hA hf k i ctu_self hn hfit hl hdg (fun H1 locs1 h1 h2 => kk H1 locs1 (h1.ext ctu_ctu) h2)
theorem pc_putF (hx : p.tables.exec = Jvm.exec) (hb : c.code = cc) (hC : Cs E s) (hown : s.vm.findClass own = some m.cls) (hin : meth.name = "<init>") {k i : Nat} {fs : List Value} (hX : PI E.1 L (ctu ct k i (.inr (ci, fs))) ad H) (hS : va_S A H0 H locs) (hA : ∀ q, q ∈ L → A q) (hf : FF own ref index ci C T N n ty) {v : Value} (hn : narrow ty v = v) (hfit : fits ty v = true) (hl : n < fs.length) (hdg : decode cc pc = .ok (.putfield index, 3))
    (kk : ∀ (H1 : Heap) (locs1 : List Loc), PI E.1 L (ctu ct k i (.inr (ci, fs.set n v))) ad H1 → va_S A H0 H1 locs1 → W p l e R s m args below meth c H1 locs1 cells slots Q (F0 m (pc + 3) ls rest)) : W p l e R s m args below meth c H locs cells slots Q (F0 m pc ls (v :: .ref (ad k i) :: rest)) :=
  pi_putF hx hb hC hown hin hX hS hA hf k i ctu_self hn hfit hl hdg (fun H1 locs1 h1 h2 => kk H1 locs1 (h1.ext ctu_ctu) h2)
end CTS
set_option maxHeartbeats 4000000 in
set_option maxRecDepth 100000 in
theorem mX1_init (l : Launch) (k i : Nat) (hP : PI E.1 L (ctu ct k i (.inr (3, [.int (nI 0), .null, .null, .int (nI 0), .int (nI 0), .int (nI 0), .int (nI 0), .int (nI 0), .int (nI 0), .int (nI 0), .int (nI 0)]))) ad H0) (a q1 q2 f w kd : Nat) (wb : Int32) : MuV l yX1_init cX1_init 8 (rmk 1 0 0 12) [.ref (ad k i), .int (nI a), .ref q1, .ref q2, .int (nI f), .int (nI w), .int (nI kd), .int wb] E H0 (PI E.1 L (ctu ct k i (.inr (3, [.int (nI a), .ref q1, .ref q2, .int (nI f), .int (nI w), .int (nI kd), .int wb, .int (nI 0), .int (nI 0), .int (nI 0), .int (nI 0)]))) ad) (cA L H0) 0 0 := by
  refine ro_of (by decide) (Nat.le_of_ble_eq_true rfl) ?_
  intro p e s m below meth co ls hx hb hr hml hown hlocks hnm hC hU hl
  have hl : lv_has ls 8 [(0, .ref (ad k i)), (1, .int (nI a)), (2, .ref q1), (3, .ref q2), (4, .int (nI f)), (5, .int (nI w)), (6, .int (nI kd)), (7, .int wb)] := hl
  have hS : va_S (cA L H0) s.heap H0 [] := by rw [hU]; exact va_S.rf
  have hA : ∀ q, q ∈ L → cA L H0 q := fun q h => Or.inl h
  refine lv_aload_n hx hb dX1_init_0 rfl (lv_at hl 0 rfl) ?_
  refine W.objInit hx hb hown (hC.2.1.hts _ _ wMl_X1_3) (hC.2.1.hts _ _ wObI) (hC.2.1.hts _ _ wObC) rfl (by rw [hml]; exact hl.1) rfl dX1_init_1 (Nat.le_of_ble_eq_true rfl) (Nat.le_of_ble_eq_true rfl) ?_
  refine W.eq (g2 := F0 m 4 ls []) rfl ?_
  refine lv_aload_n hx hb dX1_init_4 rfl (lv_at hl 0 rfl) ?_
  refine lv_iload_n hx hb dX1_init_5 rfl (lv_at hl 1 rfl) ?_
  refine pc_putF hx hb hC hown hnm hP hS hA fF_X1_9 (v := .int (nI a)) rfl rfl (Nat.le_of_ble_eq_true rfl) dX1_init_6 (fun H locs hP hS => ?_)
  refine lv_aload_n hx hb dX1_init_9 rfl (lv_at hl 0 rfl) ?_
  refine lv_aload_n hx hb dX1_init_10 rfl (lv_at hl 2 rfl) ?_
  refine pc_putF hx hb hC hown hnm hP hS hA fF_X1_15 (v := .ref q1) rfl rfl (Nat.le_of_ble_eq_true rfl) dX1_init_11 (fun H locs hP hS => ?_)
  refine lv_aload_n hx hb dX1_init_14 rfl (lv_at hl 0 rfl) ?_
  refine lv_aload_n hx hb dX1_init_15 rfl (lv_at hl 3 rfl) ?_
  refine pc_putF hx hb hC hown hnm hP hS hA fF_X1_19 (v := .ref q2) rfl rfl (Nat.le_of_ble_eq_true rfl) dX1_init_16 (fun H locs hP hS => ?_)
  refine lv_aload_n hx hb dX1_init_19 rfl (lv_at hl 0 rfl) ?_
  refine lv_iload hx hb dX1_init_20 (lv_at hl 4 rfl) ?_
  refine pc_putF hx hb hC hown hnm hP hS hA fF_X1_23 (v := .int (nI f)) rfl rfl (Nat.le_of_ble_eq_true rfl) dX1_init_22 (fun H locs hP hS => ?_)
  refine lv_aload_n hx hb dX1_init_25 rfl (lv_at hl 0 rfl) ?_
  refine lv_iload hx hb dX1_init_26 (lv_at hl 5 rfl) ?_
  refine pc_putF hx hb hC hown hnm hP hS hA fF_X1_26 (v := .int (nI w)) rfl rfl (Nat.le_of_ble_eq_true rfl) dX1_init_28 (fun H locs hP hS => ?_)
  refine lv_aload_n hx hb dX1_init_31 rfl (lv_at hl 0 rfl) ?_
  refine lv_iload hx hb dX1_init_32 (lv_at hl 6 rfl) ?_
  refine pc_putF hx hb hC hown hnm hP hS hA fF_X1_29 (v := .int (nI kd)) rfl rfl (Nat.le_of_ble_eq_true rfl) dX1_init_34 (fun H locs hP hS => ?_)
  refine lv_aload_n hx hb dX1_init_37 rfl (lv_at hl 0 rfl) ?_
  refine lv_iload hx hb dX1_init_38 (lv_at hl 7 rfl) ?_
  refine pc_putF hx hb hC hown hnm hP hS hA fF_X1_32 (v := .int wb) rfl rfl (Nat.le_of_ble_eq_true rfl) dX1_init_40 (fun H locs hP hS => ?_)
  refine lv_aload_n hx hb dX1_init_43 rfl (lv_at hl 0 rfl) ?_
  refine lv_iconstN hx hb 0 dX1_init_44 (by decide) ?_
  refine pc_put hx hb hC hown hP hS hA fP_X1_35 (v := .int (nI 0)) rfl rfl (Nat.le_of_ble_eq_true rfl) dX1_init_45 (fun H locs hP hS => ?_)
  refine lv_aload_n hx hb dX1_init_48 rfl (lv_at hl 0 rfl) ?_
  refine lv_iconstN hx hb 0 dX1_init_49 (by decide) ?_
  refine pc_put hx hb hC hown hP hS hA fP_X1_38 (v := .int (nI 0)) rfl rfl (Nat.le_of_ble_eq_true rfl) dX1_init_50 (fun H locs hP hS => ?_)
  refine lv_aload_n hx hb dX1_init_53 rfl (lv_at hl 0 rfl) ?_
  refine lv_iconstN hx hb 0 dX1_init_54 (by decide) ?_
  refine pc_put hx hb hC hown hP hS hA fP_X1_42 (v := .int (nI 0)) rfl rfl (Nat.le_of_ble_eq_true rfl) dX1_init_55 (fun H locs hP hS => ?_)
  refine lv_aload_n hx hb dX1_init_58 rfl (lv_at hl 0 rfl) ?_
  refine lv_iconstN hx hb 0 dX1_init_59 (by decide) ?_
  refine pc_put hx hb hC hown hP hS hA fP_X1_45 (v := .int (nI 0)) rfl rfl (Nat.le_of_ble_eq_true rfl) dX1_init_60 (fun H locs hP hS => ?_)
  exact mu_vret hx hb hr hlocks hS hP dX1_init_63
theorem ctu_sw {k i k2 i2 : Nat} {a b : va_E} (h : ¬ (k = k2 ∧ i = i2)) : ∀ x y, ctu (ctu ct k2 i2 b) k i a x y = ctu (ctu ct k i a) k2 i2 b x y := by
  intro x y
  unfold ctu
  by_cases h1 : x = k ∧ y = i
  · rw [if_pos h1, if_neg (fun z => h ⟨h1.1.symm.trans z.1, h1.2.symm.trans z.2⟩), if_pos h1]
  · rw [if_neg h1, if_neg h1]
theorem wArI : (Cond.arrayClass .int) ∈ WG := wg_t 329 (by decide +kernel) (by decide +kernel)
set_option maxHeartbeats 4000000 in
set_option maxRecDepth 100000 in
theorem mX0_init (l : Launch) (i : Nat) (hP : PI E.1 L (ctu ct 5 i (.inr (2, [.int (nI 0), .int (nI 0), .int (nI 0), .int (nI 0), .int (nI 0), .null, .int (nI 0), .int (nI 0), .int (nI 0), .int (nI 0), .int (nI 0)]))) ad H0) (a sp : Nat) (cr sl rd : Int32)  : MuV l yX0_init cX0_init 6 (rmk 1 1 8 12) [.ref (ad 5 i), .int (nI a), .int cr, .int (nI sp), .int sl, .int rd] E H0 (fun H1 => ∃ q, H0.size ≤ q ∧ q ∉ L ∧ PI E.1 (L ++ [q]) (ctu (ctu ct 6 i (.inl (E.2 1, 8, .inl (fun _ => 0)))) 5 i (.inr (2, [.int (nI a), .int cr, .int (nI sp), .int sl, .int rd, .ref q, .int (nI 0), .int (nI 0), .int (nI 0), .int (nI 0), .int (nI 0)]))) (up2 ad 6 i q) H1) (cA L H0) 1 8 := by
  refine ro_of (by decide) (Nat.le_of_ble_eq_true rfl) ?_
  intro p e s m below meth co ls hx hb hr hml hown hlocks hnm hC hU hl
  have hl : lv_has ls 6 [(0, .ref (ad 5 i)), (1, .int (nI a)), (2, .int cr), (3, .int (nI sp)), (4, .int sl), (5, .int rd)] := hl
  have hS : va_S (cA L H0) s.heap H0 [] := by rw [hU]; exact va_S.rf
  have hA : ∀ q, q ∈ L → cA L H0 q := fun q h => Or.inl h
  have hN : ∀ q, s.heap.size ≤ q → cA L H0 q := fun q h => Or.inr (by rw [← hU]; exact h)
  refine lv_aload_n hx hb dX0_init_0 rfl (lv_at hl 0 rfl) ?_
  refine W.objInit hx hb hown (hC.2.1.hts _ _ wMl_X0_3) (hC.2.1.hts _ _ wObI) (hC.2.1.hts _ _ wObC) rfl (by rw [hml]; exact hl.1) rfl dX0_init_1 (Nat.le_of_ble_eq_true rfl) (Nat.le_of_ble_eq_true rfl) ?_
  refine W.eq (g2 := F0 m 4 ls []) rfl ?_
  refine lv_aload_n hx hb dX0_init_4 rfl (lv_at hl 0 rfl) ?_
  refine lv_iload_n hx hb dX0_init_5 rfl (lv_at hl 1 rfl) ?_
  refine pc_putF hx hb hC hown hnm hP hS hA fF_X0_9 (v := .int (nI a)) rfl rfl (Nat.le_of_ble_eq_true rfl) dX0_init_6 (fun H locs hP hS => ?_)
  refine lv_aload_n hx hb dX0_init_9 rfl (lv_at hl 0 rfl) ?_
  refine lv_iload_n hx hb dX0_init_10 rfl (lv_at hl 2 rfl) ?_
  refine pc_putF hx hb hC hown hnm hP hS hA fF_X0_15 (v := .int cr) rfl rfl (Nat.le_of_ble_eq_true rfl) dX0_init_11 (fun H locs hP hS => ?_)
  refine lv_aload_n hx hb dX0_init_14 rfl (lv_at hl 0 rfl) ?_
  refine lv_iload_n hx hb dX0_init_15 rfl (lv_at hl 3 rfl) ?_
  refine pc_putF hx hb hC hown hnm hP hS hA fF_X0_18 (v := .int (nI sp)) rfl rfl (Nat.le_of_ble_eq_true rfl) dX0_init_16 (fun H locs hP hS => ?_)
  refine lv_aload_n hx hb dX0_init_19 rfl (lv_at hl 0 rfl) ?_
  refine lv_iload hx hb dX0_init_20 (lv_at hl 4 rfl) ?_
  refine pc_putF hx hb hC hown hnm hP hS hA fF_X0_21 (v := .int sl) rfl rfl (Nat.le_of_ble_eq_true rfl) dX0_init_22 (fun H locs hP hS => ?_)
  refine lv_aload_n hx hb dX0_init_25 rfl (lv_at hl 0 rfl) ?_
  refine lv_iload hx hb dX0_init_26 (lv_at hl 5 rfl) ?_
  refine pc_putF hx hb hC hown hnm hP hS hA fF_X0_24 (v := .int rd) rfl rfl (Nat.le_of_ble_eq_true rfl) dX0_init_28 (fun H locs hP hS => ?_)
  refine lv_aload_n hx hb dX0_init_31 rfl (lv_at hl 0 rfl) ?_
  refine lv_bipushN hx hb 8 dX0_init_32 (by decide) ?_
  refine pi_newi hx hb hC hP hS hA hN wArI 8 (by decide) 6 i ⟨Nat.le_of_ble_eq_true rfl, Nat.le_of_ble_eq_true rfl⟩ dX0_init_34 (fun q H hq hAq hP hS => ?_)
  have hA : ∀ z, z ∈ L ++ [q] → cA L H0 z := fun z h => (List.mem_append.mp h).elim Or.inl (fun h => by rw [List.mem_singleton.mp h]; exact hAq)
  have u1 : up2 ad 6 i q 5 i = ad 5 i := if_neg (by omega)
  have hP := hP.ext (ctu_sw (k := 5) (i := i) (by omega))
  rw [← u1]
  rw [← u1] at hl
  refine pc_putF hx hb hC hown hnm hP hS hA fF_X0_27 (v := .ref q) rfl rfl (Nat.le_of_ble_eq_true rfl) dX0_init_36 (fun H locs hP hS => ?_)
  refine lv_aload_n hx hb dX0_init_39 rfl (lv_at hl 0 rfl) ?_
  refine lv_iconstN hx hb 0 dX0_init_40 (by decide) ?_
  refine pc_put hx hb hC hown hP hS hA fP_X0_31 (v := .int (nI 0)) rfl rfl (Nat.le_of_ble_eq_true rfl) dX0_init_41 (fun H locs hP hS => ?_)
  refine lv_aload_n hx hb dX0_init_44 rfl (lv_at hl 0 rfl) ?_
  refine lv_iconstN hx hb 0 dX0_init_45 (by decide) ?_
  refine pc_put hx hb hC hown hP hS hA fP_X0_34 (v := .int (nI 0)) rfl rfl (Nat.le_of_ble_eq_true rfl) dX0_init_46 (fun H locs hP hS => ?_)
  refine lv_aload_n hx hb dX0_init_49 rfl (lv_at hl 0 rfl) ?_
  refine lv_iconstN hx hb 0 dX0_init_50 (by decide) ?_
  refine pc_put hx hb hC hown hP hS hA fP_X0_37 (v := .int (nI 0)) rfl rfl (Nat.le_of_ble_eq_true rfl) dX0_init_51 (fun H locs hP hS => ?_)
  refine lv_aload_n hx hb dX0_init_54 rfl (lv_at hl 0 rfl) ?_
  refine lv_iconstN hx hb 0 dX0_init_55 (by decide) ?_
  refine pc_put hx hb hC hown hP hS hA fP_X0_41 (v := .int (nI 0)) rfl rfl (Nat.le_of_ble_eq_true rfl) dX0_init_56 (fun H locs hP hS => ?_)
  refine lv_aload_n hx hb dX0_init_59 rfl (lv_at hl 0 rfl) ?_
  refine lv_iconstN hx hb 0 dX0_init_60 (by decide) ?_
  refine pc_put hx hb hC hown hP hS hA fP_X0_44 (v := .int (nI 0)) rfl rfl (Nat.le_of_ble_eq_true rfl) dX0_init_61 (fun H locs hP hS => ?_)
  refine W.widen (k := 1) (n := 8) (by omega) (by omega) ?_
  exact mu_vret hx hb hr hlocks hS ⟨q, hAq.elim (fun h => absurd h hq) id, hq, hP⟩ dX0_init_64
set_option maxHeartbeats 4000000 in
set_option maxRecDepth 100000 in
theorem mX2_init (l : Launch) (i : Nat) (hP : PI E.1 L (ctu ct 3 i (.inr (4, [.int (nI 0), .int (nI 0), .int (nI 0), .int (nI 0), .int (nI 0), .null, .int (nI 0), .int (nI 0), .int (nI 0), .int (nI 0)]))) ad H0) (a w cl : Nat) (sg ow : Int32) (hw : w ≤ 16) : MuV l yX2_init cX2_init 6 (rmk 1 1 16 12) [.ref (ad 3 i), .int (nI a), .int (nI w), .int sg, .int ow, .int (nI cl)] E H0 (fun H1 => ∃ q, H0.size ≤ q ∧ q ∉ L ∧ PI E.1 (L ++ [q]) (ctu (ctu ct 4 i (.inl (E.2 2, w, .inr (.inr (.inr (.inr (fun _ => none))))))) 3 i (.inr (4, [.int (nI a), .int (nI w), .int sg, .int ow, .int (nI cl), .ref q, .int (-1), .int (-1), .int (nI 0), .int (-1)]))) (up2 ad 4 i q) H1) (cA L H0) 1 16 := by
  refine ro_of (by decide) (Nat.le_of_ble_eq_true rfl) ?_
  intro p e s m below meth co ls hx hb hr hml hown hlocks hnm hC hU hl
  have hl : lv_has ls 6 [(0, .ref (ad 3 i)), (1, .int (nI a)), (2, .int (nI w)), (3, .int sg), (4, .int ow), (5, .int (nI cl))] := hl
  have hS : va_S (cA L H0) s.heap H0 [] := by rw [hU]; exact va_S.rf
  have hA : ∀ q, q ∈ L → cA L H0 q := fun q h => Or.inl h
  have hN : ∀ q, s.heap.size ≤ q → cA L H0 q := fun q h => Or.inr (by rw [← hU]; exact h)
  refine lv_aload_n hx hb dX2_init_0 rfl (lv_at hl 0 rfl) ?_
  refine W.objInit hx hb hown (hC.2.1.hts _ _ wMl_X2_3) (hC.2.1.hts _ _ wObI) (hC.2.1.hts _ _ wObC) rfl (by rw [hml]; exact hl.1) rfl dX2_init_1 (Nat.le_of_ble_eq_true rfl) (Nat.le_of_ble_eq_true rfl) ?_
  refine W.eq (g2 := F0 m 4 ls []) rfl ?_
  refine lv_aload_n hx hb dX2_init_4 rfl (lv_at hl 0 rfl) ?_
  refine lv_iload_n hx hb dX2_init_5 rfl (lv_at hl 1 rfl) ?_
  refine pc_putF hx hb hC hown hnm hP hS hA fF_X2_9 (v := .int (nI a)) rfl rfl (Nat.le_of_ble_eq_true rfl) dX2_init_6 (fun H locs hP hS => ?_)
  refine lv_aload_n hx hb dX2_init_9 rfl (lv_at hl 0 rfl) ?_
  refine lv_iload_n hx hb dX2_init_10 rfl (lv_at hl 2 rfl) ?_
  refine pc_putF hx hb hC hown hnm hP hS hA fF_X2_15 (v := .int (nI w)) rfl rfl (Nat.le_of_ble_eq_true rfl) dX2_init_11 (fun H locs hP hS => ?_)
  refine lv_aload_n hx hb dX2_init_14 rfl (lv_at hl 0 rfl) ?_
  refine lv_iload_n hx hb dX2_init_15 rfl (lv_at hl 3 rfl) ?_
  refine pc_putF hx hb hC hown hnm hP hS hA fF_X2_18 (v := .int sg) rfl rfl (Nat.le_of_ble_eq_true rfl) dX2_init_16 (fun H locs hP hS => ?_)
  refine lv_aload_n hx hb dX2_init_19 rfl (lv_at hl 0 rfl) ?_
  refine lv_iload hx hb dX2_init_20 (lv_at hl 4 rfl) ?_
  refine pc_putF hx hb hC hown hnm hP hS hA fF_X2_21 (v := .int ow) rfl rfl (Nat.le_of_ble_eq_true rfl) dX2_init_22 (fun H locs hP hS => ?_)
  refine lv_aload_n hx hb dX2_init_25 rfl (lv_at hl 0 rfl) ?_
  refine lv_iload hx hb dX2_init_26 (lv_at hl 5 rfl) ?_
  refine pc_putF hx hb hC hown hnm hP hS hA fF_X2_24 (v := .int (nI cl)) rfl rfl (Nat.le_of_ble_eq_true rfl) dX2_init_28 (fun H locs hP hS => ?_)
  refine lv_aload_n hx hb dX2_init_31 rfl (lv_at hl 0 rfl) ?_
  refine lv_iload_n hx hb dX2_init_32 rfl (lv_at hl 2 rfl) ?_
  refine pi_newq hx hb hC hown hP hS hA hN wCl_X2_27 hC.2.2.2.2.2.2.1 1 rfl w (by omega) 4 i ⟨Nat.le_of_ble_eq_true rfl, show 0 + w ≤ 16 by omega⟩ dX2_init_33 (fun q H hq hAq hP hS => ?_)
  have hA : ∀ z, z ∈ L ++ [q] → cA L H0 z := fun z h => (List.mem_append.mp h).elim Or.inl (fun h => by rw [List.mem_singleton.mp h]; exact hAq)
  have u1 : up2 ad 4 i q 3 i = ad 3 i := if_neg (by omega)
  have hP := hP.ext (ctu_sw (k := 3) (i := i) (by omega))
  rw [← u1]
  rw [← u1] at hl
  refine pc_putF hx hb hC hown hnm hP hS hA fF_X2_29 (v := .ref q) rfl rfl (Nat.le_of_ble_eq_true rfl) dX2_init_36 (fun H locs hP hS => ?_)
  refine lv_aload_n hx hb dX2_init_39 rfl (lv_at hl 0 rfl) ?_
  refine lv_iconst (v := -1) hx hb dX2_init_40 (by decide) ?_
  refine pc_put hx hb hC hown hP hS hA fP_X2_33 (v := .int (-1)) rfl rfl (Nat.le_of_ble_eq_true rfl) dX2_init_41 (fun H locs hP hS => ?_)
  refine lv_aload_n hx hb dX2_init_44 rfl (lv_at hl 0 rfl) ?_
  refine lv_iconst (v := -1) hx hb dX2_init_45 (by decide) ?_
  refine pc_put hx hb hC hown hP hS hA fP_X2_36 (v := .int (-1)) rfl rfl (Nat.le_of_ble_eq_true rfl) dX2_init_46 (fun H locs hP hS => ?_)
  refine lv_aload_n hx hb dX2_init_49 rfl (lv_at hl 0 rfl) ?_
  refine lv_iconstN hx hb 0 dX2_init_50 (by decide) ?_
  refine pc_put hx hb hC hown hP hS hA fP_X2_39 (v := .int (nI 0)) rfl rfl (Nat.le_of_ble_eq_true rfl) dX2_init_51 (fun H locs hP hS => ?_)
  refine lv_aload_n hx hb dX2_init_54 rfl (lv_at hl 0 rfl) ?_
  refine lv_iconst (v := -1) hx hb dX2_init_55 (by decide) ?_
  refine pc_put hx hb hC hown hP hS hA fP_X2_42 (v := .int (-1)) rfl rfl (Nat.le_of_ble_eq_true rfl) dX2_init_56 (fun H locs hP hS => ?_)
  refine W.widen (k := 1) (n := 16) (by omega) (by omega) ?_
  exact mu_vret hx hb hr hlocks hS ⟨q, hAq.elim (fun h => absurd h hq) id, hq, hP⟩ dX2_init_59
end CTR
