/-! constructors -/
section CTR
variable {E : En} {L : List Nat} {ct : Nat → Nat → Option va_E} {ad : Nat → Nat → Nat} {H0 : Heap}
theorem ctu_ctu {k i : Nat} {a b : va_E} : ∀ x y, ctu ct k i b x y = ctu (ctu ct k i a) k i b x y := by
  intro x y
  unfold ctu
  by_cases h : x = k ∧ y = i
  · rw [if_pos h, if_pos h]
  · rw [if_neg h, if_neg h, if_neg h]
section CTS
variable {p : Program} {l : Launch} {e : Env} {R : Room} {s : State} {m : MethodId} {args : Array Value} {below : List Frame} {meth : Method} {c : Code} {H : Heap} {locs : List Loc} {cells slots : Nat} {Q : State → Prop} {cc : ByteArray} {pc : Nat} {ls : Array Slot} {rest : List Value} {A : Nat → Prop} {own ref C : String} {index ci n N : Nat} {T : u_T} {ty : FieldType}
theorem pc_put (hx : p.tables.exec = Jvm.exec) (hb : c.code = cc) (hC : Cs E s) (hown : s.vm.findClass own = some m.cls) {k i : Nat} {fs : List Value} (hX : PI E.1 L (ctu ct k i (.inr (ci, fs))) ad H) (hS : va_S A H0 H locs) (hA : ∀ q, q ∈ L → A q) (hf : FP own ref index ci C T N n ty) {v : Value} (hn : narrow ty v = v) (hfit : fits ty v = true) (hl : n < fs.length) (hdg : decode cc pc = .ok (.putfield index, 3))
    (kk : ∀ (H1 : Heap) (locs1 : List Loc), PI E.1 L (ctu ct k i (.inr (ci, fs.set n v))) ad H1 → va_S A H0 H1 locs1 → W p l e R s m args below meth c H1 locs1 cells slots Q (F0 m (pc + 3) ls rest)) : W p l e R s m args below meth c H locs cells slots Q (F0 m pc ls (v :: .ref (ad k i) :: rest)) :=
  pi_put hx hb hC hown hX hS hA hf k i ctu_self hn hfit hl hdg (fun H1 locs1 h1 h2 => kk H1 locs1 (h1.ext ctu_ctu) h2)
theorem pc_putF (hx : p.tables.exec = Jvm.exec) (hb : c.code = cc) (hC : Cs E s) (hown : s.vm.findClass own = some m.cls) (hin : meth.name = "<init>") {k i : Nat} {fs : List Value} (hX : PI E.1 L (ctu ct k i (.inr (ci, fs))) ad H) (hS : va_S A H0 H locs) (hA : ∀ q, q ∈ L → A q) (hf : FF own ref index ci C T N n ty) {v : Value} (hn : narrow ty v = v) (hfit : fits ty v = true) (hl : n < fs.length) (hdg : decode cc pc = .ok (.putfield index, 3))
    (kk : ∀ (H1 : Heap) (locs1 : List Loc), PI E.1 L (ctu ct k i (.inr (ci, fs.set n v))) ad H1 → va_S A H0 H1 locs1 → W p l e R s m args below meth c H1 locs1 cells slots Q (F0 m (pc + 3) ls rest)) : W p l e R s m args below meth c H locs cells slots Q (F0 m pc ls (v :: .ref (ad k i) :: rest)) :=
  pi_putF hx hb hC hown hin hX hS hA hf k i ctu_self hn hfit hl hdg (fun H1 locs1 h1 h2 => kk H1 locs1 (h1.ext ctu_ctu) h2)
end CTS
set_option maxHeartbeats 4000000 in
set_option maxRecDepth 100000 in
theorem mX1_init (l : Launch) (k i : Nat) (hP : PI E.1 L (ctu ct k i (.inr (3, [.int (nI 0), .null, .null, .int (nI 0), .int (nI 0), .int (nI 0), .int (nI 0), .int (nI 0), .int (nI 0), .int (nI 0), .int (nI 0)]))) ad H0) (a q1 q2 f w kd : Nat) (wb : Int32) : MuV l yX1_init cX1_init 8 (rmk 1 0 0 12) [.ref (ad k i), .int (nI a), .ref q1, .ref q2, .int (nI f), .int (nI w), .int (nI kd), .int wb] E H0 (PI E.1 L (ctu ct k i (.inr (3, [.int (nI a), .ref q1, .ref q2, .int (nI f), .int (nI w), .int (nI kd), .int wb, .int (nI 0), .int (nI 0), .int (nI 0), .int (nI 0)]))) ad) (cA L H0) 0 0 := by
  refine ro_of (by decide) (Nat.le_of_ble_eq_true rfl) ?_
  intro p e s m below meth co ls hx hb hr hml hown hlocks hnm hC hU hl
  have hl : lv_has ls 8 [(0, .ref (ad k i)), (1, .int (nI a)), (2, .ref q1), (3, .ref q2), (4, .int (nI f)), (5, .int (nI w)), (6, .int (nI kd)), (7, .int wb)] := hl
  have hS : va_S (cA L H0) s.heap H0 [] := by rw [hU]; exact va_S.rf
  have hA : ∀ q, q ∈ L → cA L H0 q := fun q h => Or.inl h
  refine lv_aload_n hx hb dX1_init_0 rfl (lv_at hl 0 rfl) ?_
  refine W.objInit hx hb hown (hC.2.1.hts _ _ wMl_X1_3) (hC.2.1.hts _ _ wObI) (hC.2.1.hts _ _ wObC) rfl (by rw [hml]; exact hl.1) rfl dX1_init_1 (Nat.le_of_ble_eq_true rfl) (Nat.le_of_ble_eq_true rfl) ?_
  refine W.eq (g2 := F0 m 4 ls []) rfl ?_
  refine lv_aload_n hx hb dX1_init_4 rfl (lv_at hl 0 rfl) ?_
  refine lv_iload_n hx hb dX1_init_5 rfl (lv_at hl 1 rfl) ?_
  refine pc_putF hx hb hC hown hnm hP hS hA fF_X1_9 (v := .int (nI a)) rfl rfl (Nat.le_of_ble_eq_true rfl) dX1_init_6 (fun H locs hP hS => ?_)
  refine lv_aload_n hx hb dX1_init_9 rfl (lv_at hl 0 rfl) ?_
  refine lv_aload_n hx hb dX1_init_10 rfl (lv_at hl 2 rfl) ?_
  refine pc_putF hx hb hC hown hnm hP hS hA fF_X1_15 (v := .ref q1) rfl rfl (Nat.le_of_ble_eq_true rfl) dX1_init_11 (fun H locs hP hS => ?_)
  refine lv_aload_n hx hb dX1_init_14 rfl (lv_at hl 0 rfl) ?_
  refine lv_aload_n hx hb dX1_init_15 rfl (lv_at hl 3 rfl) ?_
  refine pc_putF hx hb hC hown hnm hP hS hA fF_X1_19 (v := .ref q2) rfl rfl (Nat.le_of_ble_eq_true rfl) dX1_init_16 (fun H locs hP hS => ?_)
  refine lv_aload_n hx hb dX1_init_19 rfl (lv_at hl 0 rfl) ?_
  refine lv_iload hx hb dX1_init_20 (lv_at hl 4 rfl) ?_
  refine pc_putF hx hb hC hown hnm hP hS hA fF_X1_23 (v := .int (nI f)) rfl rfl (Nat.le_of_ble_eq_true rfl) dX1_init_22 (fun H locs hP hS => ?_)
  refine lv_aload_n hx hb dX1_init_25 rfl (lv_at hl 0 rfl) ?_
  refine lv_iload hx hb dX1_init_26 (lv_at hl 5 rfl) ?_
  refine pc_putF hx hb hC hown hnm hP hS hA fF_X1_26 (v := .int (nI w)) rfl rfl (Nat.le_of_ble_eq_true rfl) dX1_init_28 (fun H locs hP hS => ?_)
  refine lv_aload_n hx hb dX1_init_31 rfl (lv_at hl 0 rfl) ?_
  refine lv_iload hx hb dX1_init_32 (lv_at hl 6 rfl) ?_
  refine pc_putF hx hb hC hown hnm hP hS hA fF_X1_29 (v := .int (nI kd)) rfl rfl (Nat.le_of_ble_eq_true rfl) dX1_init_34 (fun H locs hP hS => ?_)
  refine lv_aload_n hx hb dX1_init_37 rfl (lv_at hl 0 rfl) ?_
  refine lv_iload hx hb dX1_init_38 (lv_at hl 7 rfl) ?_
  refine pc_putF hx hb hC hown hnm hP hS hA fF_X1_32 (v := .int wb) rfl rfl (Nat.le_of_ble_eq_true rfl) dX1_init_40 (fun H locs hP hS => ?_)
  refine lv_aload_n hx hb dX1_init_43 rfl (lv_at hl 0 rfl) ?_
  refine lv_iconstN hx hb 0 dX1_init_44 (by decide) ?_
  refine pc_put hx hb hC hown hP hS hA fP_X1_35 (v := .int (nI 0)) rfl rfl (Nat.le_of_ble_eq_true rfl) dX1_init_45 (fun H locs hP hS => ?_)
  refine lv_aload_n hx hb dX1_init_48 rfl (lv_at hl 0 rfl) ?_
  refine lv_iconstN hx hb 0 dX1_init_49 (by decide) ?_
  refine pc_put hx hb hC hown hP hS hA fP_X1_38 (v := .int (nI 0)) rfl rfl (Nat.le_of_ble_eq_true rfl) dX1_init_50 (fun H locs hP hS => ?_)
  refine lv_aload_n hx hb dX1_init_53 rfl (lv_at hl 0 rfl) ?_
  refine lv_iconstN hx hb 0 dX1_init_54 (by decide) ?_
  refine pc_put hx hb hC hown hP hS hA fP_X1_42 (v := .int (nI 0)) rfl rfl (Nat.le_of_ble_eq_true rfl) dX1_init_55 (fun H locs hP hS => ?_)
  refine lv_aload_n hx hb dX1_init_58 rfl (lv_at hl 0 rfl) ?_
  refine lv_iconstN hx hb 0 dX1_init_59 (by decide) ?_
  refine pc_put hx hb hC hown hP hS hA fP_X1_45 (v := .int (nI 0)) rfl rfl (Nat.le_of_ble_eq_true rfl) dX1_init_60 (fun H locs hP hS => ?_)
  exact mu_vret hx hb hr hlocks hS hP dX1_init_63
set_option maxHeartbeats 4000000 in
set_option maxRecDepth 100000 in
theorem mX5_init (l : Launch) (k i : Nat) (hP : PI E.1 L (ctu ct k i (.inr (7, [.int (nI 0), .int (nI 0), .int (nI 0), .int (nI 0), .int (nI 0), .int (nI 0), .int (nI 0), .int (nI 0), .int (nI 0), .int (nI 0), .int (nI 0)]))) ad H0) (h a f w kd : Nat) (sl rd nt : Int32) (lg : Bool) : MuV l yX5_init cX5_init 10 (rmk 1 0 0 12) [.ref (ad k i), .int (nI h), .int (nI a), .int (nI f), .int (nI w), .int (nI kd), .int sl, .int rd, .int nt, .int (bI lg)] E H0 (PI E.1 L (ctu ct k i (.inr (7, [.int (nI h), .int (nI a), .int (nI f), .int (nI w), .int (nI kd), .int sl, .int rd, .int nt, .int (bI lg), .int (nI 0), .int (nI 0)]))) ad) (cA L H0) 0 0 := by
  refine ro_of (by decide) (Nat.le_of_ble_eq_true rfl) ?_
  intro p e s m below meth co ls hx hb hr hml hown hlocks hnm hC hU hl
  have hl : lv_has ls 10 [(0, .ref (ad k i)), (1, .int (nI h)), (2, .int (nI a)), (3, .int (nI f)), (4, .int (nI w)), (5, .int (nI kd)), (6, .int sl), (7, .int rd), (8, .int nt), (9, .int (bI lg))] := hl
  have hS : va_S (cA L H0) s.heap H0 [] := by rw [hU]; exact va_S.rf
  have hA : ∀ q, q ∈ L → cA L H0 q := fun q h => Or.inl h
  refine lv_aload_n hx hb dX5_init_0 rfl (lv_at hl 0 rfl) ?_
  refine W.objInit hx hb hown (hC.2.1.hts _ _ wMl_X5_1) (hC.2.1.hts _ _ wObI) (hC.2.1.hts _ _ wObC) rfl (by rw [hml]; exact hl.1) rfl dX5_init_1 (Nat.le_of_ble_eq_true rfl) (Nat.le_of_ble_eq_true rfl) ?_
  refine W.eq (g2 := F0 m 4 ls []) rfl ?_
  refine lv_aload_n hx hb dX5_init_4 rfl (lv_at hl 0 rfl) ?_
  refine lv_iload_n hx hb dX5_init_5 rfl (lv_at hl 1 rfl) ?_
  refine pc_putF hx hb hC hown hnm hP hS hA fF_X5_7 (v := .int (nI h)) rfl rfl (Nat.le_of_ble_eq_true rfl) dX5_init_6 (fun H locs hP hS => ?_)
  refine lv_aload_n hx hb dX5_init_9 rfl (lv_at hl 0 rfl) ?_
  refine lv_iload_n hx hb dX5_init_10 rfl (lv_at hl 2 rfl) ?_
  refine pc_putF hx hb hC hown hnm hP hS hA fF_X5_13 (v := .int (nI a)) rfl rfl (Nat.le_of_ble_eq_true rfl) dX5_init_11 (fun H locs hP hS => ?_)
  refine lv_aload_n hx hb dX5_init_14 rfl (lv_at hl 0 rfl) ?_
  refine lv_iload_n hx hb dX5_init_15 rfl (lv_at hl 3 rfl) ?_
  refine pc_putF hx hb hC hown hnm hP hS hA fF_X5_16 (v := .int (nI f)) rfl rfl (Nat.le_of_ble_eq_true rfl) dX5_init_16 (fun H locs hP hS => ?_)
  refine lv_aload_n hx hb dX5_init_19 rfl (lv_at hl 0 rfl) ?_
  refine lv_iload hx hb dX5_init_20 (lv_at hl 4 rfl) ?_
  refine pc_putF hx hb hC hown hnm hP hS hA fF_X5_19 (v := .int (nI w)) rfl rfl (Nat.le_of_ble_eq_true rfl) dX5_init_22 (fun H locs hP hS => ?_)
  refine lv_aload_n hx hb dX5_init_25 rfl (lv_at hl 0 rfl) ?_
  refine lv_iload hx hb dX5_init_26 (lv_at hl 5 rfl) ?_
  refine pc_putF hx hb hC hown hnm hP hS hA fF_X5_22 (v := .int (nI kd)) rfl rfl (Nat.le_of_ble_eq_true rfl) dX5_init_28 (fun H locs hP hS => ?_)
  refine lv_aload_n hx hb dX5_init_31 rfl (lv_at hl 0 rfl) ?_
  refine lv_iload hx hb dX5_init_32 (lv_at hl 6 rfl) ?_
  refine pc_putF hx hb hC hown hnm hP hS hA fF_X5_25 (v := .int sl) rfl rfl (Nat.le_of_ble_eq_true rfl) dX5_init_34 (fun H locs hP hS => ?_)
  refine lv_aload_n hx hb dX5_init_37 rfl (lv_at hl 0 rfl) ?_
  refine lv_iload hx hb dX5_init_38 (lv_at hl 7 rfl) ?_
  refine pc_putF hx hb hC hown hnm hP hS hA fF_X5_28 (v := .int rd) rfl rfl (Nat.le_of_ble_eq_true rfl) dX5_init_40 (fun H locs hP hS => ?_)
  refine lv_aload_n hx hb dX5_init_43 rfl (lv_at hl 0 rfl) ?_
  refine lv_iload hx hb dX5_init_44 (lv_at hl 8 rfl) ?_
  refine pc_putF hx hb hC hown hnm hP hS hA fF_X5_31 (v := .int nt) rfl rfl (Nat.le_of_ble_eq_true rfl) dX5_init_46 (fun H locs hP hS => ?_)
  refine lv_aload_n hx hb dX5_init_49 rfl (lv_at hl 0 rfl) ?_
  refine lv_iload hx hb dX5_init_50 (lv_at hl 9 rfl) ?_
  refine pc_putF hx hb hC hown hnm hP hS hA fF_X5_34 (v := .int (bI lg)) (bI_nar _) (bI_fit _) (Nat.le_of_ble_eq_true rfl) dX5_init_52 (fun H locs hP hS => ?_)
  exact mu_vret hx hb hr hlocks hS hP dX5_init_55
theorem ctu_sw {k i k2 i2 : Nat} {a b : va_E} (h : ¬ (k = k2 ∧ i = i2)) : ∀ x y, ctu (ctu ct k2 i2 b) k i a x y = ctu (ctu ct k i a) k2 i2 b x y := by
  intro x y
  unfold ctu
  by_cases h1 : x = k ∧ y = i
  · rw [if_pos h1, if_neg (fun z => h ⟨h1.1.symm.trans z.1, h1.2.symm.trans z.2⟩), if_pos h1]
  · rw [if_neg h1, if_neg h1]
theorem wArI : (Cond.arrayClass .int) ∈ WG := wg_t 619 (by decide +kernel) (by decide +kernel)
set_option maxHeartbeats 4000000 in
set_option maxRecDepth 100000 in
theorem mX0_init (l : Launch) (i : Nat) (hP : PI E.1 L (ctu ct 5 i (.inr (2, [.int (nI 0), .int (nI 0), .int (nI 0), .int (nI 0), .int (nI 0), .null, .int (nI 0), .int (nI 0), .int (nI 0), .int (nI 0), .int (nI 0)]))) ad H0) (a sp : Nat) (cr sl rd : Int32)  : MuV l yX0_init cX0_init 6 (rmk 1 1 8 12) [.ref (ad 5 i), .int (nI a), .int cr, .int (nI sp), .int sl, .int rd] E H0 (fun H1 => ∃ q, H0.size ≤ q ∧ q ∉ L ∧ PI E.1 (L ++ [q]) (ctu (ctu ct 6 i (.inl (E.2 1, 8, .inl (fun _ => 0)))) 5 i (.inr (2, [.int (nI a), .int cr, .int (nI sp), .int sl, .int rd, .ref q, .int (nI 0), .int (nI 0), .int (nI 0), .int (nI 0), .int (nI 0)]))) (up2 ad 6 i q) H1) (cA L H0) 1 8 := by
  refine ro_of (by decide) (Nat.le_of_ble_eq_true rfl) ?_
  intro p e s m below meth co ls hx hb hr hml hown hlocks hnm hC hU hl
  have hl : lv_has ls 6 [(0, .ref (ad 5 i)), (1, .int (nI a)), (2, .int cr), (3, .int (nI sp)), (4, .int sl), (5, .int rd)] := hl
  have hS : va_S (cA L H0) s.heap H0 [] := by rw [hU]; exact va_S.rf
  have hA : ∀ q, q ∈ L → cA L H0 q := fun q h => Or.inl h
  have hN : ∀ q, s.heap.size ≤ q → cA L H0 q := fun q h => Or.inr (by rw [← hU]; exact h)
  refine lv_aload_n hx hb dX0_init_0 rfl (lv_at hl 0 rfl) ?_
  refine W.objInit hx hb hown (hC.2.1.hts _ _ wMl_X0_3) (hC.2.1.hts _ _ wObI) (hC.2.1.hts _ _ wObC) rfl (by rw [hml]; exact hl.1) rfl dX0_init_1 (Nat.le_of_ble_eq_true rfl) (Nat.le_of_ble_eq_true rfl) ?_
  refine W.eq (g2 := F0 m 4 ls []) rfl ?_
  refine lv_aload_n hx hb dX0_init_4 rfl (lv_at hl 0 rfl) ?_
  refine lv_iload_n hx hb dX0_init_5 rfl (lv_at hl 1 rfl) ?_
  refine pc_putF hx hb hC hown hnm hP hS hA fF_X0_9 (v := .int (nI a)) rfl rfl (Nat.le_of_ble_eq_true rfl) dX0_init_6 (fun H locs hP hS => ?_)
  refine lv_aload_n hx hb dX0_init_9 rfl (lv_at hl 0 rfl) ?_
  refine lv_iload_n hx hb dX0_init_10 rfl (lv_at hl 2 rfl) ?_
  refine pc_putF hx hb hC hown hnm hP hS hA fF_X0_15 (v := .int cr) rfl rfl (Nat.le_of_ble_eq_true rfl) dX0_init_11 (fun H locs hP hS => ?_)
  refine lv_aload_n hx hb dX0_init_14 rfl (lv_at hl 0 rfl) ?_
  refine lv_iload_n hx hb dX0_init_15 rfl (lv_at hl 3 rfl) ?_
  refine pc_putF hx hb hC hown hnm hP hS hA fF_X0_18 (v := .int (nI sp)) rfl rfl (Nat.le_of_ble_eq_true rfl) dX0_init_16 (fun H locs hP hS => ?_)
  refine lv_aload_n hx hb dX0_init_19 rfl (lv_at hl 0 rfl) ?_
  refine lv_iload hx hb dX0_init_20 (lv_at hl 4 rfl) ?_
  refine pc_putF hx hb hC hown hnm hP hS hA fF_X0_21 (v := .int sl) rfl rfl (Nat.le_of_ble_eq_true rfl) dX0_init_22 (fun H locs hP hS => ?_)
  refine lv_aload_n hx hb dX0_init_25 rfl (lv_at hl 0 rfl) ?_
  refine lv_iload hx hb dX0_init_26 (lv_at hl 5 rfl) ?_
  refine pc_putF hx hb hC hown hnm hP hS hA fF_X0_24 (v := .int rd) rfl rfl (Nat.le_of_ble_eq_true rfl) dX0_init_28 (fun H locs hP hS => ?_)
  refine lv_aload_n hx hb dX0_init_31 rfl (lv_at hl 0 rfl) ?_
  refine lv_bipushN hx hb 8 dX0_init_32 (by decide) ?_
  refine pi_newi hx hb hC hP hS hA hN wArI 8 (by decide) 6 i ⟨Nat.le_of_ble_eq_true rfl, Nat.le_of_ble_eq_true rfl⟩ dX0_init_34 (fun q H hq hAq hP hS => ?_)
  have hA : ∀ z, z ∈ L ++ [q] → cA L H0 z := fun z h => (List.mem_append.mp h).elim Or.inl (fun h => by rw [List.mem_singleton.mp h]; exact hAq)
  have u1 : up2 ad 6 i q 5 i = ad 5 i := if_neg (by omega)
  have hP := hP.ext (ctu_sw (k := 5) (i := i) (by omega))
  rw [← u1]
  rw [← u1] at hl
  refine pc_putF hx hb hC hown hnm hP hS hA fF_X0_27 (v := .ref q) rfl rfl (Nat.le_of_ble_eq_true rfl) dX0_init_36 (fun H locs hP hS => ?_)
  refine lv_aload_n hx hb dX0_init_39 rfl (lv_at hl 0 rfl) ?_
  refine lv_iconstN hx hb 0 dX0_init_40 (by decide) ?_
  refine pc_put hx hb hC hown hP hS hA fP_X0_31 (v := .int (nI 0)) rfl rfl (Nat.le_of_ble_eq_true rfl) dX0_init_41 (fun H locs hP hS => ?_)
  refine lv_aload_n hx hb dX0_init_44 rfl (lv_at hl 0 rfl) ?_
  refine lv_iconstN hx hb 0 dX0_init_45 (by decide) ?_
  refine pc_put hx hb hC hown hP hS hA fP_X0_34 (v := .int (nI 0)) rfl rfl (Nat.le_of_ble_eq_true rfl) dX0_init_46 (fun H locs hP hS => ?_)
  refine lv_aload_n hx hb dX0_init_49 rfl (lv_at hl 0 rfl) ?_
  refine lv_iconstN hx hb 0 dX0_init_50 (by decide) ?_
  refine pc_put hx hb hC hown hP hS hA fP_X0_37 (v := .int (nI 0)) rfl rfl (Nat.le_of_ble_eq_true rfl) dX0_init_51 (fun H locs hP hS => ?_)
  refine lv_aload_n hx hb dX0_init_54 rfl (lv_at hl 0 rfl) ?_
  refine lv_iconstN hx hb 0 dX0_init_55 (by decide) ?_
  refine pc_put hx hb hC hown hP hS hA fP_X0_41 (v := .int (nI 0)) rfl rfl (Nat.le_of_ble_eq_true rfl) dX0_init_56 (fun H locs hP hS => ?_)
  refine lv_aload_n hx hb dX0_init_59 rfl (lv_at hl 0 rfl) ?_
  refine lv_iconstN hx hb 0 dX0_init_60 (by decide) ?_
  refine pc_put hx hb hC hown hP hS hA fP_X0_44 (v := .int (nI 0)) rfl rfl (Nat.le_of_ble_eq_true rfl) dX0_init_61 (fun H locs hP hS => ?_)
  refine W.widen (k := 1) (n := 8) (by omega) (by omega) ?_
  exact mu_vret hx hb hr hlocks hS ⟨q, hAq.elim (fun h => absurd h hq) id, hq, hP⟩ dX0_init_64
set_option maxHeartbeats 4000000 in
set_option maxRecDepth 100000 in
theorem mX4_init (l : Launch) (i : Nat) (hP : PI E.1 L (ctu ct 5 i (.inr (6, [.int (nI 0), .int (nI 0), .int (nI 0), .int (nI 0), .int (nI 0), .int (nI 0), .int (nI 0), .int (nI 0), .int (nI 0), .null]))) ad H0) (sp : Nat) (cr sl rd : Int32)  : MuV l yX4_init cX4_init 5 (rmk 1 1 8 12) [.ref (ad 5 i), .int cr, .int (nI sp), .int sl, .int rd] E H0 (fun H1 => ∃ q, H0.size ≤ q ∧ q ∉ L ∧ PI E.1 (L ++ [q]) (ctu (ctu ct 6 i (.inl (E.2 1, 8, .inl (fun _ => 0)))) 5 i (.inr (6, [.int cr, .int (nI sp), .int sl, .int rd, .int (nI 0), .int (nI 0), .int (nI 0), .int (nI 0), .int (nI 0), .ref q]))) (up2 ad 6 i q) H1) (cA L H0) 1 8 := by
  refine ro_of (by decide) (Nat.le_of_ble_eq_true rfl) ?_
  intro p e s m below meth co ls hx hb hr hml hown hlocks hnm hC hU hl
  have hl : lv_has ls 5 [(0, .ref (ad 5 i)), (1, .int cr), (2, .int (nI sp)), (3, .int sl), (4, .int rd)] := hl
  have hS : va_S (cA L H0) s.heap H0 [] := by rw [hU]; exact va_S.rf
  have hA : ∀ q, q ∈ L → cA L H0 q := fun q h => Or.inl h
  have hN : ∀ q, s.heap.size ≤ q → cA L H0 q := fun q h => Or.inr (by rw [← hU]; exact h)
  refine lv_aload_n hx hb dX4_init_0 rfl (lv_at hl 0 rfl) ?_
  refine W.objInit hx hb hown (hC.2.1.hts _ _ wMl_X4_3) (hC.2.1.hts _ _ wObI) (hC.2.1.hts _ _ wObC) rfl (by rw [hml]; exact hl.1) rfl dX4_init_1 (Nat.le_of_ble_eq_true rfl) (Nat.le_of_ble_eq_true rfl) ?_
  refine W.eq (g2 := F0 m 4 ls []) rfl ?_
  refine lv_aload_n hx hb dX4_init_4 rfl (lv_at hl 0 rfl) ?_
  refine lv_bipushN hx hb 8 dX4_init_5 (by decide) ?_
  refine pi_newi hx hb hC hP hS hA hN wArI 8 (by decide) 6 i ⟨Nat.le_of_ble_eq_true rfl, Nat.le_of_ble_eq_true rfl⟩ dX4_init_7 (fun q H hq hAq hP hS => ?_)
  have hA : ∀ z, z ∈ L ++ [q] → cA L H0 z := fun z h => (List.mem_append.mp h).elim Or.inl (fun h => by rw [List.mem_singleton.mp h]; exact hAq)
  have u1 : up2 ad 6 i q 5 i = ad 5 i := if_neg (by omega)
  have hP := hP.ext (ctu_sw (k := 5) (i := i) (by omega))
  rw [← u1]
  rw [← u1] at hl
  refine pc_putF hx hb hC hown hnm hP hS hA fF_X4_9 (v := .ref q) rfl rfl (Nat.le_of_ble_eq_true rfl) dX4_init_9 (fun H locs hP hS => ?_)
  refine lv_aload_n hx hb dX4_init_12 rfl (lv_at hl 0 rfl) ?_
  refine lv_iload_n hx hb dX4_init_13 rfl (lv_at hl 1 rfl) ?_
  refine pc_putF hx hb hC hown hnm hP hS hA fF_X4_15 (v := .int cr) rfl rfl (Nat.le_of_ble_eq_true rfl) dX4_init_14 (fun H locs hP hS => ?_)
  refine lv_aload_n hx hb dX4_init_17 rfl (lv_at hl 0 rfl) ?_
  refine lv_iload_n hx hb dX4_init_18 rfl (lv_at hl 2 rfl) ?_
  refine pc_putF hx hb hC hown hnm hP hS hA fF_X4_19 (v := .int (nI sp)) rfl rfl (Nat.le_of_ble_eq_true rfl) dX4_init_19 (fun H locs hP hS => ?_)
  refine lv_aload_n hx hb dX4_init_22 rfl (lv_at hl 0 rfl) ?_
  refine lv_iload_n hx hb dX4_init_23 rfl (lv_at hl 3 rfl) ?_
  refine pc_putF hx hb hC hown hnm hP hS hA fF_X4_22 (v := .int sl) rfl rfl (Nat.le_of_ble_eq_true rfl) dX4_init_24 (fun H locs hP hS => ?_)
  refine lv_aload_n hx hb dX4_init_27 rfl (lv_at hl 0 rfl) ?_
  refine lv_iload hx hb dX4_init_28 (lv_at hl 4 rfl) ?_
  refine pc_putF hx hb hC hown hnm hP hS hA fF_X4_25 (v := .int rd) rfl rfl (Nat.le_of_ble_eq_true rfl) dX4_init_30 (fun H locs hP hS => ?_)
  refine W.widen (k := 1) (n := 8) (by omega) (by omega) ?_
  exact mu_vret hx hb hr hlocks hS ⟨q, hAq.elim (fun h => absurd h hq) id, hq, hP⟩ dX4_init_33
set_option maxHeartbeats 4000000 in
set_option maxRecDepth 100000 in
theorem mX2_init (l : Launch) (i : Nat) (hP : PI E.1 L (ctu ct 3 i (.inr (4, [.int (nI 0), .int (nI 0), .int (nI 0), .int (nI 0), .int (nI 0), .null, .int (nI 0), .int (nI 0), .int (nI 0), .int (nI 0)]))) ad H0) (a w cl : Nat) (sg ow : Int32) (hw : w ≤ 16) : MuV l yX2_init cX2_init 6 (rmk 1 1 16 12) [.ref (ad 3 i), .int (nI a), .int (nI w), .int sg, .int ow, .int (nI cl)] E H0 (fun H1 => ∃ q, H0.size ≤ q ∧ q ∉ L ∧ PI E.1 (L ++ [q]) (ctu (ctu ct 4 i (.inl (E.2 2, w, .inr (.inr (.inr (.inr (fun _ => none))))))) 3 i (.inr (4, [.int (nI a), .int (nI w), .int sg, .int ow, .int (nI cl), .ref q, .int (-1), .int (-1), .int (nI 0), .int (-1)]))) (up2 ad 4 i q) H1) (cA L H0) 1 16 := by
  refine ro_of (by decide) (Nat.le_of_ble_eq_true rfl) ?_
  intro p e s m below meth co ls hx hb hr hml hown hlocks hnm hC hU hl
  have hl : lv_has ls 6 [(0, .ref (ad 3 i)), (1, .int (nI a)), (2, .int (nI w)), (3, .int sg), (4, .int ow), (5, .int (nI cl))] := hl
  have hS : va_S (cA L H0) s.heap H0 [] := by rw [hU]; exact va_S.rf
  have hA : ∀ q, q ∈ L → cA L H0 q := fun q h => Or.inl h
  have hN : ∀ q, s.heap.size ≤ q → cA L H0 q := fun q h => Or.inr (by rw [← hU]; exact h)
  refine lv_aload_n hx hb dX2_init_0 rfl (lv_at hl 0 rfl) ?_
  refine W.objInit hx hb hown (hC.2.1.hts _ _ wMl_X2_3) (hC.2.1.hts _ _ wObI) (hC.2.1.hts _ _ wObC) rfl (by rw [hml]; exact hl.1) rfl dX2_init_1 (Nat.le_of_ble_eq_true rfl) (Nat.le_of_ble_eq_true rfl) ?_
  refine W.eq (g2 := F0 m 4 ls []) rfl ?_
  refine lv_aload_n hx hb dX2_init_4 rfl (lv_at hl 0 rfl) ?_
  refine lv_iload_n hx hb dX2_init_5 rfl (lv_at hl 1 rfl) ?_
  refine pc_putF hx hb hC hown hnm hP hS hA fF_X2_9 (v := .int (nI a)) rfl rfl (Nat.le_of_ble_eq_true rfl) dX2_init_6 (fun H locs hP hS => ?_)
  refine lv_aload_n hx hb dX2_init_9 rfl (lv_at hl 0 rfl) ?_
  refine lv_iload_n hx hb dX2_init_10 rfl (lv_at hl 2 rfl) ?_
  refine pc_putF hx hb hC hown hnm hP hS hA fF_X2_15 (v := .int (nI w)) rfl rfl (Nat.le_of_ble_eq_true rfl) dX2_init_11 (fun H locs hP hS => ?_)
  refine lv_aload_n hx hb dX2_init_14 rfl (lv_at hl 0 rfl) ?_
  refine lv_iload_n hx hb dX2_init_15 rfl (lv_at hl 3 rfl) ?_
  refine pc_putF hx hb hC hown hnm hP hS hA fF_X2_18 (v := .int sg) rfl rfl (Nat.le_of_ble_eq_true rfl) dX2_init_16 (fun H locs hP hS => ?_)
  refine lv_aload_n hx hb dX2_init_19 rfl (lv_at hl 0 rfl) ?_
  refine lv_iload hx hb dX2_init_20 (lv_at hl 4 rfl) ?_
  refine pc_putF hx hb hC hown hnm hP hS hA fF_X2_21 (v := .int ow) rfl rfl (Nat.le_of_ble_eq_true rfl) dX2_init_22 (fun H locs hP hS => ?_)
  refine lv_aload_n hx hb dX2_init_25 rfl (lv_at hl 0 rfl) ?_
  refine lv_iload hx hb dX2_init_26 (lv_at hl 5 rfl) ?_
  refine pc_putF hx hb hC hown hnm hP hS hA fF_X2_24 (v := .int (nI cl)) rfl rfl (Nat.le_of_ble_eq_true rfl) dX2_init_28 (fun H locs hP hS => ?_)
  refine lv_aload_n hx hb dX2_init_31 rfl (lv_at hl 0 rfl) ?_
  refine lv_iload_n hx hb dX2_init_32 rfl (lv_at hl 2 rfl) ?_
  refine pi_newq hx hb hC hown hP hS hA hN wCl_X2_27 hC.2.2.2.2.2.2.1 1 rfl w (by omega) 4 i ⟨Nat.le_of_ble_eq_true rfl, show 0 + w ≤ 16 by omega⟩ dX2_init_33 (fun q H hq hAq hP hS => ?_)
  have hA : ∀ z, z ∈ L ++ [q] → cA L H0 z := fun z h => (List.mem_append.mp h).elim Or.inl (fun h => by rw [List.mem_singleton.mp h]; exact hAq)
  have u1 : up2 ad 4 i q 3 i = ad 3 i := if_neg (by omega)
  have hP := hP.ext (ctu_sw (k := 3) (i := i) (by omega))
  rw [← u1]
  rw [← u1] at hl
  refine pc_putF hx hb hC hown hnm hP hS hA fF_X2_29 (v := .ref q) rfl rfl (Nat.le_of_ble_eq_true rfl) dX2_init_36 (fun H locs hP hS => ?_)
  refine lv_aload_n hx hb dX2_init_39 rfl (lv_at hl 0 rfl) ?_
  refine lv_iconst (v := -1) hx hb dX2_init_40 (by decide) ?_
  refine pc_put hx hb hC hown hP hS hA fP_X2_33 (v := .int (-1)) rfl rfl (Nat.le_of_ble_eq_true rfl) dX2_init_41 (fun H locs hP hS => ?_)
  refine lv_aload_n hx hb dX2_init_44 rfl (lv_at hl 0 rfl) ?_
  refine lv_iconst (v := -1) hx hb dX2_init_45 (by decide) ?_
  refine pc_put hx hb hC hown hP hS hA fP_X2_36 (v := .int (-1)) rfl rfl (Nat.le_of_ble_eq_true rfl) dX2_init_46 (fun H locs hP hS => ?_)
  refine lv_aload_n hx hb dX2_init_49 rfl (lv_at hl 0 rfl) ?_
  refine lv_iconstN hx hb 0 dX2_init_50 (by decide) ?_
  refine pc_put hx hb hC hown hP hS hA fP_X2_39 (v := .int (nI 0)) rfl rfl (Nat.le_of_ble_eq_true rfl) dX2_init_51 (fun H locs hP hS => ?_)
  refine lv_aload_n hx hb dX2_init_54 rfl (lv_at hl 0 rfl) ?_
  refine lv_iconst (v := -1) hx hb dX2_init_55 (by decide) ?_
  refine pc_put hx hb hC hown hP hS hA fP_X2_42 (v := .int (-1)) rfl rfl (Nat.le_of_ble_eq_true rfl) dX2_init_56 (fun H locs hP hS => ?_)
  refine W.widen (k := 1) (n := 16) (by omega) (by omega) ?_
  exact mu_vret hx hb hr hlocks hS ⟨q, hAq.elim (fun h => absurd h hq) id, hq, hP⟩ dX2_init_59
set_option maxHeartbeats 4000000 in
set_option maxRecDepth 100000 in
theorem mX6_init (l : Launch) (i : Nat) (hP : PI E.1 L (ctu ct 3 i (.inr (8, [.int (nI 0), .int (nI 0), .int (nI 0), .null, .int (nI 0), .int (nI 0), .int (nI 0), .int (nI 0)]))) ad H0) (w cl : Nat) (sg ow : Int32) (hw : w ≤ 16) : MuV l yX6_init cX6_init 6 (rmk 1 1 16 12) [.ref (ad 3 i), .int (nI w), .int sg, .int ow, .int (nI cl)] E H0 (fun H1 => ∃ q, H0.size ≤ q ∧ q ∉ L ∧ PI E.1 (L ++ [q]) (ctu (ctu ct 4 i (.inl (E.2 1, w, .inl (fun y => if y < w then -1 else 0)))) 3 i (.inr (8, [.int sg, .int ow, .int (nI cl), .ref q, .int (-1), .int (-1), .int (-1), .int (-1)]))) (up2 ad 4 i q) H1) (cA L H0) 1 16 := by
  refine ro_of (by decide) (Nat.le_of_ble_eq_true rfl) ?_
  intro p e s m below meth co ls hx hb hr hml hown hlocks hnm hC hU hl
  have hl : lv_has ls 6 [(0, .ref (ad 3 i)), (1, .int (nI w)), (2, .int sg), (3, .int ow), (4, .int (nI cl))] := hl
  have hS : va_S (cA L H0) s.heap H0 [] := by rw [hU]; exact va_S.rf
  have hA : ∀ q, q ∈ L → cA L H0 q := fun q h => Or.inl h
  have hN : ∀ q, s.heap.size ≤ q → cA L H0 q := fun q h => Or.inr (by rw [← hU]; exact h)
  refine lv_aload_n hx hb dX6_init_0 rfl (lv_at hl 0 rfl) ?_
  refine W.objInit hx hb hown (hC.2.1.hts _ _ wMl_X6_3) (hC.2.1.hts _ _ wObI) (hC.2.1.hts _ _ wObC) rfl (by rw [hml]; exact hl.1) rfl dX6_init_1 (Nat.le_of_ble_eq_true rfl) (Nat.le_of_ble_eq_true rfl) ?_
  refine W.eq (g2 := F0 m 4 ls []) rfl ?_
  refine lv_aload_n hx hb dX6_init_4 rfl (lv_at hl 0 rfl) ?_
  refine lv_iconst (v := -1) hx hb dX6_init_5 (by decide) ?_
  refine pc_put hx hb hC hown hP hS hA fP_X6_9 (v := .int (-1)) rfl rfl (Nat.le_of_ble_eq_true rfl) dX6_init_6 (fun H locs hP hS => ?_)
  refine lv_aload_n hx hb dX6_init_9 rfl (lv_at hl 0 rfl) ?_
  refine lv_iconst (v := -1) hx hb dX6_init_10 (by decide) ?_
  refine pc_put hx hb hC hown hP hS hA fP_X6_15 (v := .int (-1)) rfl rfl (Nat.le_of_ble_eq_true rfl) dX6_init_11 (fun H locs hP hS => ?_)
  refine lv_aload_n hx hb dX6_init_14 rfl (lv_at hl 0 rfl) ?_
  refine lv_iconst (v := -1) hx hb dX6_init_15 (by decide) ?_
  refine pc_put hx hb hC hown hP hS hA fP_X6_18 (v := .int (-1)) rfl rfl (Nat.le_of_ble_eq_true rfl) dX6_init_16 (fun H locs hP hS => ?_)
  refine lv_aload_n hx hb dX6_init_19 rfl (lv_at hl 0 rfl) ?_
  refine lv_iconst (v := -1) hx hb dX6_init_20 (by decide) ?_
  refine pc_put hx hb hC hown hP hS hA fP_X6_21 (v := .int (-1)) rfl rfl (Nat.le_of_ble_eq_true rfl) dX6_init_21 (fun H locs hP hS => ?_)
  refine lv_aload_n hx hb dX6_init_24 rfl (lv_at hl 0 rfl) ?_
  refine lv_iload_n hx hb dX6_init_25 rfl (lv_at hl 2 rfl) ?_
  refine pc_putF hx hb hC hown hnm hP hS hA fF_X6_24 (v := .int sg) rfl rfl (Nat.le_of_ble_eq_true rfl) dX6_init_26 (fun H locs hP hS => ?_)
  refine lv_aload_n hx hb dX6_init_29 rfl (lv_at hl 0 rfl) ?_
  refine lv_iload_n hx hb dX6_init_30 rfl (lv_at hl 3 rfl) ?_
  refine pc_putF hx hb hC hown hnm hP hS hA fF_X6_27 (v := .int ow) rfl rfl (Nat.le_of_ble_eq_true rfl) dX6_init_31 (fun H locs hP hS => ?_)
  refine lv_aload_n hx hb dX6_init_34 rfl (lv_at hl 0 rfl) ?_
  refine lv_iload hx hb dX6_init_35 (lv_at hl 4 rfl) ?_
  refine pc_putF hx hb hC hown hnm hP hS hA fF_X6_30 (v := .int (nI cl)) rfl rfl (Nat.le_of_ble_eq_true rfl) dX6_init_37 (fun H locs hP hS => ?_)
  refine lv_aload_n hx hb dX6_init_40 rfl (lv_at hl 0 rfl) ?_
  refine lv_iload_n hx hb dX6_init_41 rfl (lv_at hl 1 rfl) ?_
  refine pi_newi hx hb hC hP hS hA hN wArI w (by omega) 4 i ⟨Nat.le_of_ble_eq_true rfl, show 0 + w ≤ 16 by omega⟩ dX6_init_42 (fun q H hq hAq hP hS => ?_)
  have hA : ∀ z, z ∈ L ++ [q] → cA L H0 z := fun z h => (List.mem_append.mp h).elim Or.inl (fun h => by rw [List.mem_singleton.mp h]; exact hAq)
  have u1 : up2 ad 4 i q 3 i = ad 3 i := if_neg (by omega)
  have hP := hP.ext (ctu_sw (k := 3) (i := i) (by omega))
  rw [← u1]
  rw [← u1] at hl
  refine pc_putF hx hb hC hown hnm hP hS hA fF_X6_33 (v := .ref q) rfl rfl (Nat.le_of_ble_eq_true rfl) dX6_init_44 (fun H locs hP hS => ?_)
  have u2 : up2 ad 4 i q 4 i = q := if_pos ⟨rfl, rfl⟩
  refine lv_iconstN hx hb 0 dX6_init_47 (by decide) ?_
  refine lv_istore (lv' := [(5, .int (nI 0)), (0, .ref (up2 ad 4 i q 3 i)), (1, .int (nI w)), (2, .int sg), (3, .int ow), (4, .int (nI cl))]) hx hb dX6_init_48 hl (by decide) rfl (fun ls hl => ?_)
  have lp : ∀ fu : Nat, ∀ (z : Nat), z ≤ w → w - z < fu → ∀ (H : Heap) (locs : List Loc), PI E.1 (L ++ [q]) (ctu (ctu ct 4 i (.inl (E.2 1, w, .inl (fun y => if y < z then -1 else 0)))) 3 i (.inr (8, [.int sg, .int ow, .int (nI cl), .ref q, .int (-1), .int (-1), .int (-1), .int (-1)]))) (up2 ad 4 i q) H → va_S (cA L H0) s.heap H locs → ∀ ls : Array Slot, lv_has ls 6 [(5, .int (nI z)), (0, .ref (up2 ad 4 i q 3 i)), (1, .int (nI w))] → W p l e (rmk 1 1 16 12) s m (([.ref (up2 ad 4 i q 3 i), .int (nI w), .int sg, .int ow, .int (nI cl)] : List Value).toArray) below meth co H locs (0 + 1) (0 + w) (MQ below (QvM (fun H1 => ∃ q, H0.size ≤ q ∧ q ∉ L ∧ PI E.1 (L ++ [q]) (ctu (ctu ct 4 i (.inl (E.2 1, w, .inl (fun y => if y < w then -1 else 0)))) 3 i (.inr (8, [.int sg, .int ow, .int (nI cl), .ref q, .int (-1), .int (-1), .int (-1), .int (-1)]))) (up2 ad 4 i q) H1) (cA L H0)) (([.ref (up2 ad 4 i q 3 i), .int (nI w), .int sg, .int ow, .int (nI cl)] : List Value).toArray) s 1 16 (cA L H0)) (F0 m 50 ls []) := by
    intro fu
    induction fu with
    | zero => intro z hz hfu; exact absurd hfu (Nat.not_lt_zero _)
    | succ fu ih =>
      intro z hz hfu H locs hP hS ls hl
      refine lv_iload hx hb dX6_init_50 (lv_at hl 0 rfl) ?_
      refine lv_iload_n hx hb dX6_init_52 rfl (lv_at hl 2 rfl) ?_
      refine lv_icmpN_ge (tgt := 70) hx hb dX6_init_53 (by decide) (by omega) (by omega) (fun c1 => ?_) (fun c1 => ?_)
      · refine W.widen (k := 1) (n := 16) (by omega) (by omega) ?_
        have e : z = w := by omega
        rw [e] at hP
        exact mu_vret hx hb hr hlocks hS ⟨q, hAq.elim (fun h => absurd h hq) id, hq, hP⟩ dX6_init_70
      · refine lv_aload_n hx hb dX6_init_56 rfl (lv_at hl 1 rfl) ?_
        refine pi_get hx hb hC hown hP fL_X6_33 3 i ctu_self (v := .ref q) rfl dX6_init_57 ?_
        refine lv_iload hx hb dX6_init_60 (lv_at hl 0 rfl) ?_
        refine lv_iconst (v := -1) hx hb dX6_init_62 (by decide) ?_
        rw [← u2]
        refine pi_iast (n := w) hx hb hC hP hS hA 4 i ((ctu_n (by omega)).trans ctu_self) (j := z) c1 (by omega) dX6_init_63 (fun H locs hP hS => ?_)
        rw [u2] at *
        refine lv_iincN (v := 1) (lv' := [(5, .int (nI (z + 1))), (0, .ref (up2 ad 4 i q 3 i)), (1, .int (nI w))]) hx hb dX6_init_64 hl (k := 0) rfl (by decide) (by decide) rfl (fun ls hl => ?_)
        refine lv_goto (tgt := 50) hx hb dX6_init_67 (by decide) ?_
        refine ih (z + 1) c1 (by omega) H locs (hP.ext fun x y => ?_) hS ls hl
        have e : upd (fun y => if y < z then (-1 : Int32) else 0) z (-1) = fun y => if y < z + 1 then -1 else 0 := by
          funext y
          unfold upd
          by_cases h1 : y = z
          · rw [if_pos h1, if_pos (by omega)]
          · rw [if_neg h1]
            show (if y < z then (-1 : Int32) else 0) = _
            by_cases h2 : y < z
            · rw [if_pos h2, if_pos (by omega)]
            · rw [if_neg h2, if_neg (by omega)]
        rw [e]
        unfold ctu
        by_cases h1 : x = 3 ∧ y = i
        · rw [if_pos h1, if_neg (fun h => by omega), if_pos h1]
        · rw [if_neg h1]
          by_cases h2 : x = 4 ∧ y = i
          · rw [if_pos h2, if_pos h2]
          · rw [if_neg h2, if_neg h2, if_neg h1, if_neg h2]
  refine lp (w + 1) 0 (Nat.zero_le _) (by omega) _ _ hP hS _ (lv_sub hl [0, 1, 2] rfl)
end CTR
