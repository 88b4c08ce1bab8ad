/-! constructors -/
section CTR
variable {E : En} {L : List Nat} {ct : Nat → Nat → Option va_E} {ad : Nat → Nat → Nat} {H0 : Heap}
theorem ctu_ctu {k i : Nat} {a b : va_E} : ∀ x y, ctu ct k i b x y = ctu (ctu ct k i a) k i b x y := by
  intro x y
  unfold ctu
  by_cases h : x = k ∧ y = i
  · rw [if_pos h, if_pos h]
  · rw [if_neg h, if_neg h, if_neg h]
section CTS
variable {p : Program} {l : Launch} {e : Env} {R : Room} {s : State} {m : MethodId} {args : Array Value} {below : List Frame} {meth : Method} {c : Code} {H : Heap} {locs : List Loc} {cells slots : Nat} {Q : State → Prop} {cc : ByteArray} {pc : Nat} {ls : Array Slot} {rest : List Value} {A : Nat → Prop} {own ref C : String} {index ci n N : Nat} {T : u_T} {ty : FieldType}
theorem pc_put (hx : p.tables.exec = Jvm.exec) (hb : c.code = cc) (hC : Cs E s) (hown : s.vm.findClass own = some m.cls) {k i : Nat} {fs : List Value} (hX : PI E.1 L (ctu ct k i (.inr (ci, fs))) ad H) (hS : va_S A H0 H locs) (hA : ∀ q, q ∈ L → A q) (hf : FP own ref index ci C T N n ty) {v : Value} (hn : narrow ty v = v) (hfit : fits ty v = true) (hl : n < fs.length) (hdg : decode cc pc = .ok (.putfield index, 3))
    (kk : ∀ (H1 : Heap) (locs1 : List Loc), PI E.1 L (ctu ct k i (.inr (ci, fs.set n v))) ad H1 → va_S A H0 H1 locs1 → W p l e R s m args below meth c H1 locs1 cells slots Q (F0 m (pc + 3) ls rest)) : W p l e R s m args below meth c H locs cells slots Q (F0 m pc ls (v :: .ref (ad k i) :: rest)) :=
  pi_put hx hb hC hown hX hS hA hf k i ctu_self hn hfit hl hdg (fun H1 locs1 h1 h2 => kk H1 locs1 (h1.ext ctu_ctu) h2)
theorem pc_putF (hx : p.tables.exec = Jvm.exec) (hb : c.code = cc) (hC : Cs E s) (hown : s.vm.findClass own = some m.cls) (hin : meth.name = "<init>") {k i : Nat} {fs : List Value} (hX : PI E.1 L (ctu ct k i (.inr (ci, fs))) ad H) (hS : va_S A H0 H locs) (hA : ∀ q, q ∈ L → A q) (hf : FF own ref index ci C T N n ty) {v : Value} (hn : narrow ty v = v) (hfit : fits ty v = true) (hl : n < fs.length) (hdg : decode cc pc = .ok (.putfield index, 3))
    (kk : ∀ (H1 : Heap) (locs1 : List Loc), PI E.1 L (ctu ct k i (.inr (ci, fs.set n v))) ad H1 → va_S A H0 H1 locs1 → W p l e R s m args below meth c H1 locs1 cells slots Q (F0 m (pc + 3) ls rest)) : W p l e R s m args below meth c H locs cells slots Q (F0 m pc ls (v :: .ref (ad k i) :: rest)) :=
  pi_putF hx hb hC hown hin hX hS hA hf k i ctu_self hn hfit hl hdg (fun H1 locs1 h1 h2 => kk H1 locs1 (h1.ext ctu_ctu) h2)
end CTS
set_option maxHeartbeats 4000000 in
set_option maxRecDepth 100000 in
theorem mX1_init (l : Launch) (k i : Nat) (hP : PI E.1 L (ctu ct k i (.inr (3, [.int (nI 0), .null, .null, .int (nI 0), .int (nI 0), .int (nI 0), .int (nI 0), .int (nI 0), .int (nI 0), .int (nI 0), .int (nI 0)]))) ad H0) (a q1 q2 f w kd : Nat) (wb : Int32) : MuV l yX1_init cX1_init 8 (rmk 1 0 0 12) [.ref (ad k i), .int (nI a), .ref q1, .ref q2, .int (nI f), .int (nI w), .int (nI kd), .int wb] E H0 (PI E.1 L (ctu ct k i (.inr (3, [.int (nI a), .ref q1, .ref q2, .int (nI f), .int (nI w), .int (nI kd), .int wb, .int (nI 0), .int (nI 0), .int (nI 0), .int (nI 0)]))) ad) (cA L H0) 0 0 := by
  refine ro_of (by decide) (Nat.le_of_ble_eq_true rfl) ?_
  intro p e s m below meth co ls hx hb hr hml hown hlocks hnm hC hU hl
  have hl : lv_has ls 8 [(0, .ref (ad k i)), (1, .int (nI a)), (2, .ref q1), (3, .ref q2), (4, .int (nI f)), (5, .int (nI w)), (6, .int (nI kd)), (7, .int wb)] := hl
  have hS : va_S (cA L H0) s.heap H0 [] := by rw [hU]; exact va_S.rf
  have hA : ∀ q, q ∈ L → cA L H0 q := fun q h => Or.inl h
  refine lv_aload_n hx hb dX1_init_0 rfl (lv_at hl 0 rfl) ?_
  refine W.objInit hx hb hown (hC.2.1.hts _ _ wMl_X1_3) (hC.2.1.hts _ _ wObI) (hC.2.1.hts _ _ wObC) rfl (by rw [hml]; exact hl.1) rfl dX1_init_1 (Nat.le_of_ble_eq_true rfl) (Nat.le_of_ble_eq_true rfl) ?_
  refine W.eq (g2 := F0 m 4 ls []) rfl ?_
  refine lv_aload_n hx hb dX1_init_4 rfl (lv_at hl 0 rfl) ?_
  refine lv_iload_n hx hb dX1_init_5 rfl (lv_at hl 1 rfl) ?_
  refine pc_putF hx hb hC hown hnm hP hS hA fF_X1_9 (v := .int (nI a)) rfl rfl (Nat.le_of_ble_eq_true rfl) dX1_init_6 (fun H locs hP hS => ?_)
  refine lv_aload_n hx hb dX1_init_9 rfl (lv_at hl 0 rfl) ?_
  refine lv_aload_n hx hb dX1_init_10 rfl (lv_at hl 2 rfl) ?_
  refine pc_putF hx hb hC hown hnm hP hS hA fF_X1_15 (v := .ref q1) rfl rfl (Nat.le_of_ble_eq_true rfl) dX1_init_11 (fun H locs hP hS => ?_)
  refine lv_aload_n hx hb dX1_init_14 rfl (lv_at hl 0 rfl) ?_
  refine lv_aload_n hx hb dX1_init_15 rfl (lv_at hl 3 rfl) ?_
  refine pc_putF hx hb hC hown hnm hP hS hA fF_X1_19 (v := .ref q2) rfl rfl (Nat.le_of_ble_eq_true rfl) dX1_init_16 (fun H locs hP hS => ?_)
  refine lv_aload_n hx hb dX1_init_19 rfl (lv_at hl 0 rfl) ?_
  refine lv_iload hx hb dX1_init_20 (lv_at hl 4 rfl) ?_
  refine pc_putF hx hb hC hown hnm hP hS hA fF_X1_23 (v := .int (nI f)) rfl rfl (Nat.le_of_ble_eq_true rfl) dX1_init_22 (fun H locs hP hS => ?_)
  refine lv_aload_n hx hb dX1_init_25 rfl (lv_at hl 0 rfl) ?_
  refine lv_iload hx hb dX1_init_26 (lv_at hl 5 rfl) ?_
  refine pc_putF hx hb hC hown hnm hP hS hA fF_X1_26 (v := .int (nI w)) rfl rfl (Nat.le_of_ble_eq_true rfl) dX1_init_28 (fun H locs hP hS => ?_)
  refine lv_aload_n hx hb dX1_init_31 rfl (lv_at hl 0 rfl) ?_
  refine lv_iload hx hb dX1_init_32 (lv_at hl 6 rfl) ?_
  refine pc_putF hx hb hC hown hnm hP hS hA fF_X1_29 (v := .int (nI kd)) rfl rfl (Nat.le_of_ble_eq_true rfl) dX1_init_34 (fun H locs hP hS => ?_)
  refine lv_aload_n hx hb dX1_init_37 rfl (lv_at hl 0 rfl) ?_
  refine lv_iload hx hb dX1_init_38 (lv_at hl 7 rfl) ?_
  refine pc_putF hx hb hC hown hnm hP hS hA fF_X1_32 (v := .int wb) rfl rfl (Nat.le_of_ble_eq_true rfl) dX1_init_40 (fun H locs hP hS => ?_)
  refine lv_aload_n hx hb dX1_init_43 rfl (lv_at hl 0 rfl) ?_
  refine lv_iconstN hx hb 0 dX1_init_44 (by decide) ?_
  refine pc_put hx hb hC hown hP hS hA fP_X1_35 (v := .int (nI 0)) rfl rfl (Nat.le_of_ble_eq_true rfl) dX1_init_45 (fun H locs hP hS => ?_)
  refine lv_aload_n hx hb dX1_init_48 rfl (lv_at hl 0 rfl) ?_
  refine lv_iconstN hx hb 0 dX1_init_49 (by decide) ?_
  refine pc_put hx hb hC hown hP hS hA fP_X1_38 (v := .int (nI 0)) rfl rfl (Nat.le_of_ble_eq_true rfl) dX1_init_50 (fun H locs hP hS => ?_)
  refine lv_aload_n hx hb dX1_init_53 rfl (lv_at hl 0 rfl) ?_
  refine lv_iconstN hx hb 0 dX1_init_54 (by decide) ?_
  refine pc_put hx hb hC hown hP hS hA fP_X1_42 (v := .int (nI 0)) rfl rfl (Nat.le_of_ble_eq_true rfl) dX1_init_55 (fun H locs hP hS => ?_)
  refine lv_aload_n hx hb dX1_init_58 rfl (lv_at hl 0 rfl) ?_
  refine lv_iconstN hx hb 0 dX1_init_59 (by decide) ?_
  refine pc_put hx hb hC hown hP hS hA fP_X1_45 (v := .int (nI 0)) rfl rfl (Nat.le_of_ble_eq_true rfl) dX1_init_60 (fun H locs hP hS => ?_)
  exact mu_vret hx hb hr hlocks hS hP dX1_init_63
set_option maxHeartbeats 4000000 in
set_option maxRecDepth 100000 in
theorem mX5_init (l : Launch) (k i : Nat) (hP : PI E.1 L (ctu ct k i (.inr (7, [.int (nI 0), .int (nI 0), .int (nI 0), .int (nI 0), .int (nI 0), .int (nI 0), .int (nI 0), .int (nI 0), .int (nI 0), .int (nI 0), .int (nI 0)]))) ad H0) (h a f w kd : Nat) (sl rd nt : Int32) (lg : Bool) : MuV l yX5_init cX5_init 10 (rmk 1 0 0 12) [.ref (ad k i), .int (nI h), .int (nI a), .int (nI f), .int (nI w), .int (nI kd), .int sl, .int rd, .int nt, .int (bI lg)] E H0 (PI E.1 L (ctu ct k i (.inr (7, [.int (nI h), .int (nI a), .int (nI f), .int (nI w), .int (nI kd), .int sl, .int rd, .int nt, .int (bI lg), .int (nI 0), .int (nI 0)]))) ad) (cA L H0) 0 0 := by
  refine ro_of (by decide) (Nat.le_of_ble_eq_true rfl) ?_
  intro p e s m below meth co ls hx hb hr hml hown hlocks hnm hC hU hl
  have hl : lv_has ls 10 [(0, .ref (ad k i)), (1, .int (nI h)), (2, .int (nI a)), (3, .int (nI f)), (4, .int (nI w)), (5, .int (nI kd)), (6, .int sl), (7, .int rd), (8, .int nt), (9, .int (bI lg))] := hl
  have hS : va_S (cA L H0) s.heap H0 [] := by rw [hU]; exact va_S.rf
  have hA : ∀ q, q ∈ L → cA L H0 q := fun q h => Or.inl h
  refine lv_aload_n hx hb dX5_init_0 rfl (lv_at hl 0 rfl) ?_
  refine W.objInit hx hb hown (hC.2.1.hts _ _ wMl_X5_1) (hC.2.1.hts _ _ wObI) (hC.2.1.hts _ _ wObC) rfl (by rw [hml]; exact hl.1) rfl dX5_init_1 (Nat.le_of_ble_eq_true rfl) (Nat.le_of_ble_eq_true rfl) ?_
  refine W.eq (g2 := F0 m 4 ls []) rfl ?_
  refine lv_aload_n hx hb dX5_init_4 rfl (lv_at hl 0 rfl) ?_
  refine lv_iload_n hx hb dX5_init_5 rfl (lv_at hl 1 rfl) ?_
  refine pc_putF hx hb hC hown hnm hP hS hA fF_X5_7 (v := .int (nI h)) rfl rfl (Nat.le_of_ble_eq_true rfl) dX5_init_6 (fun H locs hP hS => ?_)
  refine lv_aload_n hx hb dX5_init_9 rfl (lv_at hl 0 rfl) ?_
  refine lv_iload_n hx hb dX5_init_10 rfl (lv_at hl 2 rfl) ?_
  refine pc_putF hx hb hC hown hnm hP hS hA fF_X5_13 (v := .int (nI a)) rfl rfl (Nat.le_of_ble_eq_true rfl) dX5_init_11 (fun H locs hP hS => ?_)
  refine lv_aload_n hx hb dX5_init_14 rfl (lv_at hl 0 rfl) ?_
  refine lv_iload_n hx hb dX5_init_15 rfl (lv_at hl 3 rfl) ?_
  refine pc_putF hx hb hC hown hnm hP hS hA fF_X5_16 (v := .int (nI f)) rfl rfl (Nat.le_of_ble_eq_true rfl) dX5_init_16 (fun H locs hP hS => ?_)
  refine lv_aload_n hx hb dX5_init_19 rfl (lv_at hl 0 rfl) ?_
  refine lv_iload hx hb dX5_init_20 (lv_at hl 4 rfl) ?_
  refine pc_putF hx hb hC hown hnm hP hS hA fF_X5_19 (v := .int (nI w)) rfl rfl (Nat.le_of_ble_eq_true rfl) dX5_init_22 (fun H locs hP hS => ?_)
  refine lv_aload_n hx hb dX5_init_25 rfl (lv_at hl 0 rfl) ?_
  refine lv_iload hx hb dX5_init_26 (lv_at hl 5 rfl) ?_
  refine pc_putF hx hb hC hown hnm hP hS hA fF_X5_22 (v := .int (nI kd)) rfl rfl (Nat.le_of_ble_eq_true rfl) dX5_init_28 (fun H locs hP hS => ?_)
  refine lv_aload_n hx hb dX5_init_31 rfl (lv_at hl 0 rfl) ?_
  refine lv_iload hx hb dX5_init_32 (lv_at hl 6 rfl) ?_
  refine pc_putF hx hb hC hown hnm hP hS hA fF_X5_25 (v := .int sl) rfl rfl (Nat.le_of_ble_eq_true rfl) dX5_init_34 (fun H locs hP hS => ?_)
  refine lv_aload_n hx hb dX5_init_37 rfl (lv_at hl 0 rfl) ?_
  refine lv_iload hx hb dX5_init_38 (lv_at hl 7 rfl) ?_
  refine pc_putF hx hb hC hown hnm hP hS hA fF_X5_28 (v := .int rd) rfl rfl (Nat.le_of_ble_eq_true rfl) dX5_init_40 (fun H locs hP hS => ?_)
  refine lv_aload_n hx hb dX5_init_43 rfl (lv_at hl 0 rfl) ?_
  refine lv_iload hx hb dX5_init_44 (lv_at hl 8 rfl) ?_
  refine pc_putF hx hb hC hown hnm hP hS hA fF_X5_31 (v := .int nt) rfl rfl (Nat.le_of_ble_eq_true rfl) dX5_init_46 (fun H locs hP hS => ?_)
  refine lv_aload_n hx hb dX5_init_49 rfl (lv_at hl 0 rfl) ?_
  refine lv_iload hx hb dX5_init_50 (lv_at hl 9 rfl) ?_
  refine pc_putF hx hb hC hown hnm hP hS hA fF_X5_34 (v := .int (bI lg)) (bI_nar _) (bI_fit _) (Nat.le_of_ble_eq_true rfl) dX5_init_52 (fun H locs hP hS => ?_)
  exact mu_vret hx hb hr hlocks hS hP dX5_init_55
end CTR
