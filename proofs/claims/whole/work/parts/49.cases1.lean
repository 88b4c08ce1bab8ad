/-! the law: its rows and its state -/
section LRW
variable {p : Program} {l : Launch} {e : Env} {R : Room} {s : State} {m : MethodId} {args : Array Value} {below : List Frame} {meth : Method} {c : Code} {H H0 : Heap} {locs : List Loc} {cells slots : Nat} {Q : State → Prop}
variable {cc : ByteArray} {pc nL : Nat} {ls : Array Slot} {rest : List Value} {E : En} {A : Nat → Prop}
variable {y : MethodName} {b : ByteArray} {maxL n index : Nat} {rt : FieldType} {rm : Room} {own C : String}
/-- a wrapper's words -/
def KW (own : String) (idx : Nat) (y : MethodName) (b : ByteArray) (n : Nat) (hh : List (Nat × Nat × Nat × Nat)) (np : Nat) : Prop :=
  GoodIn WG (va_wsS own idx y [.codeWith y b n (some .int) hh]) ∧ (y.cls ≠ "java/lang/invoke/MethodHandle" ∧ y.cls ≠ "java/lang/invoke/VarHandle" ∧ (parseMethodDescriptor y.desc).map (fun d => d.parameters.length) = some np)
theorem KW.of {own : String} {idx : Nat} {y : MethodName} {b : ByteArray} {n np : Nat} {hh : List (Nat × Nat × Nat × Nat)} (h1 : .methodLink own idx y ∈ WG) (h2 : .static y ∈ WG) (h4 : .initialized y.cls ∈ WG) (h5 : .codeWith y b n (some .int) hh ∈ WG) (hd : y.cls ≠ "java/lang/invoke/MethodHandle" ∧ y.cls ≠ "java/lang/invoke/VarHandle" ∧ (parseMethodDescriptor y.desc).map (fun d => d.parameters.length) = some np) : KW own idx y b n hh np := by
  refine ⟨fun w hw => ?_, hd⟩
  have h : w ∈ WG := by
    simp only [va_wsS, List.mem_append, List.mem_cons, List.not_mem_nil, or_false] at hw
    rcases hw with (rfl | rfl | rfl) | rfl <;> assumption
  exact ⟨h, wg_good h⟩
theorem lw_S {As : List Value} {v : Int32} {nn mc ms : Nat} {hh : List (Nat × Nat × Nat × Nat)} {B : Heap → Prop} {A1 : Nat → Prop} (hx : p.tables.exec = Jvm.exec) (hb : c.code = cc) (hml : c.maxLocals = nL) (hown : s.vm.findClass own = some m.cls) (hC : Cs E s) (hNc : NcS s) (hS : va_S A s.heap H locs) (hAb : ∀ q, A q → bA E q)
    (hM : LwI l y b maxL hh rm As E H v B A1 mc ms) (hA1 : ∀ q, A1 q → A q) (hK : KW own index y b maxL hh nn) (hrm : rm.cells = mc ∧ rm.slots = ms) (hR : rm.frames + 1 ≤ R.frames ∧ 8 + (maxL + 11) + rm.locals ≤ R.locals) (hn : As.length = nn) {lv : List (Nat × Value)} (hl : lv_has ls nL lv) (hr8 : (rest.map fun v => v.category).sum ≤ 8) (hc0 : cells + mc ≤ R.cells ∧ slots + ms ≤ R.slots) (hdg : decode cc pc = .ok (.invokestatic index, 3))
    (kk : ∀ (H1 : Heap) (locs1 : List Loc), B H1 → va_S A s.heap H1 locs1 → H.size ≤ H1.size → (∀ q, q < H.size → ¬ A1 q → H1[q]? = H[q]?) → W p l e R s m args below meth c H1 locs1 (cells + mc) (slots + ms) Q (F0 m (pc + 3) ls (.int v :: rest))) : W p l e R s m args below meth c H locs cells slots Q (F0 m pc ls (As.reverse ++ rest)) := by
  have hts := hC.2.1.hts args
  refine va_calli (vx_runSW (As := As) (rest := rest) ⟨hx, hb, hml, hown, hts⟩ hM (vx_cwSW nn hts hK.1 rfl hrm.1 hrm.2 hK.2 hR) ⟨PcL.blind, fun U hU hW => ⟨rfl, hU, hC.go hW hU hS hAb, hNc.moved hW.alike⟩⟩ rfl hn hl.1 rfl (lv_room hr8) hdg hc0) hS (fun q _ h => hA1 q h) hA1 (fun r u t H1 locs1 ht hvm hw hB hz hk hS1 => ?_)
  subst hw
  rw [ht] at hB
  exact kk H1 locs1 hB hS1 hz hk
theorem mu_VL {As : List Value} {h0 : Nat} {v : Int64} {nn mc ms : Nat} {B : Heap → Prop} {A1 : Nat → Prop} (hx : p.tables.exec = Jvm.exec) (hb : c.code = cc) (hml : c.maxLocals = nL) (hown : s.vm.findClass own = some m.cls) (hC : Cs E s) (hS : va_S A s.heap H locs) (hAb : ∀ q, A q → bA E q)
    (hM : MuL l y b maxL rm (.ref h0 :: As) E H v B A1 mc ms) (hA1 : ∀ q, A1 q → A q) (hK : KV own index C y b maxL (some .long) nn) (hrm : rm.cells = mc ∧ rm.slots = ms) (hR : rm.frames + 1 ≤ R.frames ∧ 8 + (maxL + 11) + rm.locals ≤ R.locals) (hrecv : ∃ cellB : Cell, H[h0]? = some cellB ∧ cellB.vm.isStatics = false ∧ s.vm.findClass C = some cellB.cls) (hn : As.length = nn) {lv : List (Nat × Value)} (hl : lv_has ls nL lv) (hr8 : (rest.map fun v => v.category).sum ≤ 8) (hc0 : cells + mc ≤ R.cells ∧ slots + ms ≤ R.slots) (hdg : decode cc pc = .ok (.invokevirtual index, 3))
    (kk : ∀ (H1 : Heap) (locs1 : List Loc), B H1 → va_S A s.heap H1 locs1 → H.size ≤ H1.size → (∀ q, q < H.size → ¬ A1 q → H1[q]? = H[q]?) → W p l e R s m args below meth c H1 locs1 (cells + mc) (slots + ms) Q (F0 m (pc + 3) ls (.long v :: rest))) : W p l e R s m args below meth c H locs cells slots Q (F0 m pc ls (As.reverse ++ .ref h0 :: rest)) := by
  have hts := hC.2.1.hts args
  refine va_calll (va_runV (As := As) (rest := rest) ⟨hx, hb, hml, hown, hts⟩ hM (cwV nn hts hK.1 rfl hrm.1 hrm.2 hK.2 hR) ⟨PcR.blind, hrecv, fun U hU hW => ⟨rfl, hU, hC.go hW hU hS hAb⟩⟩ rfl hn hl.1 rfl (lv_room hr8) hdg hc0) hS (fun q _ h => hA1 q h) hA1 (fun r u t H1 locs1 ht hvm hw hB hz hk hS1 => ?_)
  subst hw
  rw [ht] at hB
  exact kk H1 locs1 hB hS1 hz hk
theorem mu_VD {As : List Value} {h0 : Nat} {v : UInt64} {nn mc ms : Nat} {B : Heap → Prop} {A1 : Nat → Prop} (hx : p.tables.exec = Jvm.exec) (hb : c.code = cc) (hml : c.maxLocals = nL) (hown : s.vm.findClass own = some m.cls) (hC : Cs E s) (hS : va_S A s.heap H locs) (hAb : ∀ q, A q → bA E q)
    (hM : MuD l y b maxL rm (.ref h0 :: As) E H v B A1 mc ms) (hA1 : ∀ q, A1 q → A q) (hK : KV own index C y b maxL (some .double) nn) (hrm : rm.cells = mc ∧ rm.slots = ms) (hR : rm.frames + 1 ≤ R.frames ∧ 8 + (maxL + 11) + rm.locals ≤ R.locals) (hrecv : ∃ cellB : Cell, H[h0]? = some cellB ∧ cellB.vm.isStatics = false ∧ s.vm.findClass C = some cellB.cls) (hn : As.length = nn) {lv : List (Nat × Value)} (hl : lv_has ls nL lv) (hr8 : (rest.map fun v => v.category).sum ≤ 8) (hc0 : cells + mc ≤ R.cells ∧ slots + ms ≤ R.slots) (hdg : decode cc pc = .ok (.invokevirtual index, 3))
    (kk : ∀ (H1 : Heap) (locs1 : List Loc), B H1 → va_S A s.heap H1 locs1 → H.size ≤ H1.size → (∀ q, q < H.size → ¬ A1 q → H1[q]? = H[q]?) → W p l e R s m args below meth c H1 locs1 (cells + mc) (slots + ms) Q (F0 m (pc + 3) ls (.double v :: rest))) : W p l e R s m args below meth c H locs cells slots Q (F0 m pc ls (As.reverse ++ .ref h0 :: rest)) := by
  have hts := hC.2.1.hts args
  refine va_calld (va_runV (As := As) (rest := rest) ⟨hx, hb, hml, hown, hts⟩ hM (cwV nn hts hK.1 rfl hrm.1 hrm.2 hK.2 hR) ⟨PcR.blind, hrecv, fun U hU hW => ⟨rfl, hU, hC.go hW hU hS hAb⟩⟩ rfl hn hl.1 rfl (lv_room hr8) hdg hc0) hS (fun q _ h => hA1 q h) hA1 (fun r u t H1 locs1 ht hvm hw hB hz hk hS1 => ?_)
  subst hw
  rw [ht] at hB
  exact kk H1 locs1 hB hS1 hz hk
theorem ro_VD {As : List Value} {h0 : Nat} {v : UInt64} {nn : Nat} (hx : p.tables.exec = Jvm.exec) (hb : c.code = cc) (hml : c.maxLocals = nL) (hown : s.vm.findClass own = some m.cls) (hC : Cs E s) (hS : va_S A s.heap H locs) (hAb : ∀ q, A q → bA E q)
    (hM : RoD l y b maxL rm (.ref h0 :: As) E H v) (hK : KV own index C y b maxL (some .double) nn) (hrm : rm.cells = 0 ∧ rm.slots = 0) (hR : rm.frames + 1 ≤ R.frames ∧ 8 + (maxL + 11) + rm.locals ≤ R.locals) (hrecv : ∃ cellB : Cell, H[h0]? = some cellB ∧ cellB.vm.isStatics = false ∧ s.vm.findClass C = some cellB.cls) (hn : As.length = nn) {lv : List (Nat × Value)} (hl : lv_has ls nL lv) (hr8 : (rest.map fun v => v.category).sum ≤ 8) (hc0 : cells ≤ R.cells ∧ slots ≤ R.slots) (hdg : decode cc pc = .ok (.invokevirtual index, 3))
    (kk : ∀ (locs1 : List Loc), va_S A s.heap H locs1 → W p l e R s m args below meth c H locs1 cells slots Q (F0 m (pc + 3) ls (.double v :: rest))) : W p l e R s m args below meth c H locs cells slots Q (F0 m pc ls (As.reverse ++ .ref h0 :: rest)) := by
  have hts := hC.2.1.hts args
  refine va_calld (va_runV (As := As) (rest := rest) ⟨hx, hb, hml, hown, hts⟩ hM (cwV nn hts hK.1 rfl hrm.1 hrm.2 hK.2 hR) ⟨PcR.blind, hrecv, fun U hU hW => ⟨rfl, hU, hC.go hW hU hS hAb⟩⟩ rfl hn hl.1 rfl (lv_room hr8) hdg (by rw [Nat.add_zero, Nat.add_zero]; exact hc0)) hS (fun q _ h => h.elim) (fun q h => h.elim) (fun r u t H1 locs1 ht hvm hw hB hz hk hS1 => ?_)
  subst hw
  have e1 : H1 = H := ht.symm.trans hB
  subst e1
  exact kk locs1 hS1
/-- the script -/
theorem lw_sld {bb Ln i : Nat} {xs : Nat → Int32} (hx : p.tables.exec = Jvm.exec) (hb : c.code = cc) (hXs : va_X bb Ln xs s s.heap) (hbl : bb < s.heap.size) (hbA : ¬ A bb) (hS : va_S A s.heap H locs) (hi : i < Ln) (hL : Ln ≤ 3584) (hdg : decode cc pc = .ok (.iaload, 1))
    (kk : W p l e R s m args below meth c H locs cells slots Q (F0 m (pc + 1) ls (.int (xs i) :: rest))) : W p l e R s m args below meth c H locs cells slots Q (F0 m pc ls (.int (nI i) :: .ref bb :: rest)) := by
  refine va_sld hx hb hXs hbl hbA hS (vp_in_nI hi (by omega)) hdg ?_
  rw [nI_clamp (by omega)]
  exact kk
theorem lw_lald {o : Nat} {w : Int64} (hx : p.tables.exec = Jvm.exec) (hb : c.code = cc) (hC : Cs E s) (hO : oO E o w H) (hdg : decode cc pc = .ok (.laload, 1))
    (kk : W p l e R s m args below meth c H locs cells slots Q (F0 m (pc + 1) ls (.long w :: rest))) : W p l e R s m args below meth c H locs cells slots Q (F0 m pc ls (.int (nI 0) :: .ref o :: rest)) := by
  have e0 : (nI 0).toNatClampNeg = 0 := nI_clamp (by decide)
  have hin : vp_in (nI 0) 1 := vp_in_nI (by decide) (by decide)
  refine W.lald (v := .long w) hx hb hO ((hC.1.2 3 (E.2 4, .long) rfl).1 1 (fun j => .long ((fun _ => w) j))) (fun q => by cases q) (by show ¬ (nI 0 < 0 ∨ (arrV _ _ _).slots.size ≤ _); rw [arrV_size]; exact hin) (by show (arrV _ _ _).slots[_]? = _; rw [e0]; exact arrV_read _ _ Nat.zero_lt_one) rfl rfl hdg kk
end LRW
def LC (p : Program) (l : Launch) (s : State) (m : MethodId) (co : Code) (E : En) (b Ln : Nat) (xs : Nat → Int32) : Prop :=
  p.tables.exec = Jvm.exec ∧ co.code = code ∧ co.maxLocals = 9 ∧ s.vm.findClass RL = some m.cls ∧ Cs E s ∧ NcS s ∧ va_X b Ln xs s s.heap ∧ b < s.heap.size ∧ E.2 0 = s.heap.size ∧ l.stackTraces = false ∧ Ln ≤ 3584
def LT (E : En) (sh : Heap) (x mm out : Nat) (cx cm : Cy) (th : Int32) (v : Int64) (H : Heap) (locs : List Loc) : Prop := ∃ (ly : Ly) (L : List Nat) (ad : Nat → Nat → Nat) (ly' : Ly) (L' : List Nat) (ad' : Nat → Nat → Nat), PX E cx ly L ad H ∧ PM E cm th ly' L' ad' H ∧ ad 0 0 = x ∧ ad' 0 0 = mm ∧ (∀ q, q ∈ L → q ∉ L') ∧ out ∉ L ∧ out ∉ L' ∧ oO E out v H ∧ bA E out ∧ va_S (bA E) sh H locs
/-- the reference's city, grown -/
def mB (sz : Nat) (E : En) (c : Cy) (th : Int32) (L : List Nat) (x : Nat) : Heap → Prop := fun H1 => ∃ (L2 : List Nat) (ly2 : Ly) (ad2 : Nat → Nat → Nat), PM E c th ly2 L2 ad2 H1 ∧ ad2 0 0 = x ∧ (∀ q, q ∈ L2 → q ∈ L ∨ sz ≤ q)
section LTS
variable {E : En} {sh H H1 : Heap} {x mm out : Nat} {c cm c' : Cy} {th th' : Int32} {v v' : Int64} {locs locs1 : List Loc} {ly ly' : Ly} {L L' : List Nat} {ad ad' : Nat → Nat → Nat}
theorem lt_x (hX : PX E c ly L ad H) (hM : PM E cm th ly' L' ad' H) (hx : ad 0 0 = x) (hm : ad' 0 0 = mm) (hd : ∀ q, q ∈ L → q ∉ L') (ho : out ∉ L) (ho' : out ∉ L') (hO : oO E out v H) (hb : bA E out) (hB : oB H.size E c' L x out v' H1) (hk : ∀ q, q < H.size → ¬ aO L out H q → H1[q]? = H[q]?) (hS1 : va_S (bA E) sh H1 locs1) : LT E sh x mm out c' cm th v' H1 locs1 := by
  obtain ⟨hO1, L2, ly2, ad2, hX1, e1, hL2⟩ := hB
  have hlt : out < H.size := (Array.getElem?_eq_some_iff.mp hO).1
  refine ⟨ly2, L2, ad2, ly', L', ad', hX1, hM.kept (fun q h1 h2 => hk q h1 (fun z => z.elim (fun z => hd q z h2) (fun z => z.elim (fun z => ho' (by rw [← z]; exact h2)) (fun z => absurd h1 (Nat.not_lt.mpr z))))), e1, hm, fun q h1 h2 => (hL2 q h1).elim (fun z => hd q z h2) (fun z => absurd (hM.1.lt h2) (Nat.not_lt.mpr z)), fun h => (hL2 out h).elim ho (fun z => absurd hlt (Nat.not_lt.mpr z)), ho', hO1, hb, hS1⟩
theorem lt_m (hX : PX E c ly L ad H) (hM : PM E cm th ly' L' ad' H) (hx : ad 0 0 = x) (hm : ad' 0 0 = mm) (hd : ∀ q, q ∈ L → q ∉ L') (ho : out ∉ L) (ho' : out ∉ L') (hO : oO E out v H) (hb : bA E out) (hB : mB H.size E c' th' L' mm H1) (hk : ∀ q, q < H.size → ¬ cA L' H q → H1[q]? = H[q]?) (hS1 : va_S (bA E) sh H1 locs1) : LT E sh x mm out c c' th' v H1 locs1 := by
  obtain ⟨L2, ly2, ad2, hM1, e1, hL2⟩ := hB
  have hlt : out < H.size := (Array.getElem?_eq_some_iff.mp hO).1
  refine ⟨ly, L, ad, ly2, L2, ad2, hX.kept (fun q h1 h2 => hk q h1 (fun z => z.elim (fun z => hd q h2 z) (fun z => absurd h1 (Nat.not_lt.mpr z)))), hM1, hx, e1, fun q h1 h2 => (hL2 q h2).elim (fun z => hd q h1 z) (fun z => absurd (hX.1.lt h1) (Nat.not_lt.mpr z)), ho, fun h => (hL2 out h).elim ho' (fun z => absurd hlt (Nat.not_lt.mpr z)), (hk out hlt (fun z => z.elim ho' (fun z => absurd hlt (Nat.not_lt.mpr z)))).trans hO, hb, hS1⟩
end LTS
theorem lg_self (x : Int64) : lg_cmp x x = 0 := by
  unfold lg_cmp
  simp
theorem wSt_L_wall : .static yL_wall ∈ WG := wg_t 427 (by decide +kernel) (by decide +kernel)
theorem wCw_L_wall : .codeWith yL_wall cL_wall 7 (some .int) [(0, 14, 17, 13), (0, 14, 21, 15)] ∈ WG := wg_t 428 (by decide +kernel) (by decide +kernel)
theorem kW_L_92 : KW RL 92 yL_wall cL_wall 7 [(0, 14, 17, 13), (0, 14, 21, 15)] 6 := KW.of wMl_L_92 wSt_L_wall wIn_L wCw_L_wall (by decide +kernel)
theorem wSt_L_hand : .static yL_hand ∈ WG := wg_t 560 (by decide +kernel) (by decide +kernel)
theorem wCw_L_hand : .codeWith yL_hand cL_hand 7 (some .int) [(0, 14, 17, 13), (0, 14, 21, 15)] ∈ WG := wg_t 561 (by decide +kernel) (by decide +kernel)
theorem kW_L_102 : KW RL 102 yL_hand cL_hand 7 [(0, 14, 17, 13), (0, 14, 21, 15)] 6 := KW.of wMl_L_102 wSt_L_hand wIn_L wCw_L_hand (by decide +kernel)
theorem wSt_L_permit : .static yL_permit ∈ WG := wg_t 621 (by decide +kernel) (by decide +kernel)
theorem wCw_L_permit : .codeWith yL_permit cL_permit 6 (some .int) [(0, 12, 15, 24), (0, 12, 19, 13)] ∈ WG := wg_t 622 (by decide +kernel) (by decide +kernel)
theorem kW_L_105 : KW RL 105 yL_permit cL_permit 6 [(0, 12, 15, 24), (0, 12, 19, 13)] 5 := KW.of wMl_L_105 wSt_L_permit wIn_L wCw_L_permit (by decide +kernel)
theorem wSt_L_watch : .static yL_watch ∈ WG := wg_t 630 (by decide +kernel) (by decide +kernel)
theorem wCw_L_watch : .codeWith yL_watch cL_watch 6 (some .int) [(0, 12, 15, 24), (0, 12, 19, 13)] ∈ WG := wg_t 631 (by decide +kernel) (by decide +kernel)
theorem kW_L_109 : KW RL 109 yL_watch cL_watch 6 [(0, 12, 15, 24), (0, 12, 19, 13)] 5 := KW.of wMl_L_109 wSt_L_watch wIn_L wCw_L_watch (by decide +kernel)
theorem wSt_L_paint : .static yL_paint ∈ WG := wg_t 638 (by decide +kernel) (by decide +kernel)
theorem wCw_L_paint : .codeWith yL_paint cL_paint 9 (some .int) [(0, 18, 21, 24), (0, 18, 25, 13), (0, 18, 29, 15)] ∈ WG := wg_t 639 (by decide +kernel) (by decide +kernel)
theorem kW_L_112 : KW RL 112 yL_paint cL_paint 9 [(0, 18, 21, 24), (0, 18, 25, 13), (0, 18, 29, 15)] 8 := KW.of wMl_L_112 wSt_L_paint wIn_L wCw_L_paint (by decide +kernel)
theorem wSt_L_buff : .static yL_buff ∈ WG := wg_t 724 (by decide +kernel) (by decide +kernel)
theorem wCw_L_buff : .codeWith yL_buff cL_buff 4 (some .int) [(0, 9, 12, 24), (0, 9, 15, 15)] ∈ WG := wg_t 725 (by decide +kernel) (by decide +kernel)
theorem kW_L_116 : KW RL 116 yL_buff cL_buff 4 [(0, 9, 12, 24), (0, 9, 15, 15)] 3 := KW.of wMl_L_116 wSt_L_buff wIn_L wCw_L_buff (by decide +kernel)
theorem wSt_L_clear : .static yL_clear ∈ WG := wg_t 732 (by decide +kernel) (by decide +kernel)
theorem wCw_L_clear : .codeWith yL_clear cL_clear 4 (some .int) [(0, 9, 12, 24)] ∈ WG := wg_t 733 (by decide +kernel) (by decide +kernel)
theorem kW_L_120 : KW RL 120 yL_clear cL_clear 4 [(0, 9, 12, 24)] 3 := KW.of wMl_L_120 wSt_L_clear wIn_L wCw_L_clear (by decide +kernel)
theorem wSt_L_sell : .static yL_sell ∈ WG := wg_t 747 (by decide +kernel) (by decide +kernel)
theorem wCw_L_sell : .codeWith yL_sell cL_sell 4 (some .int) [(0, 9, 12, 24), (0, 9, 15, 15)] ∈ WG := wg_t 748 (by decide +kernel) (by decide +kernel)
theorem kW_L_123 : KW RL 123 yL_sell cL_sell 4 [(0, 9, 12, 24), (0, 9, 15, 15)] 3 := KW.of wMl_L_123 wSt_L_sell wIn_L wCw_L_sell (by decide +kernel)
theorem wSt_L_waive : .static yL_waive ∈ WG := wg_t 759 (by decide +kernel) (by decide +kernel)
theorem wCw_L_waive : .codeWith yL_waive cL_waive 4 (some .int) [(0, 16, 19, 24)] ∈ WG := wg_t 760 (by decide +kernel) (by decide +kernel)
theorem kW_L_126 : KW RL 126 yL_waive cL_waive 4 [(0, 16, 19, 24)] 3 := KW.of wMl_L_126 wSt_L_waive wIn_L wCw_L_waive (by decide +kernel)
theorem wSt_L_remember : .static yL_remember ∈ WG := wg_t 766 (by decide +kernel) (by decide +kernel)
theorem wCw_L_remember : .codeWith yL_remember cL_remember 4 (some .int) [(0, 16, 19, 24)] ∈ WG := wg_t 767 (by decide +kernel) (by decide +kernel)
theorem kW_L_129 : KW RL 129 yL_remember cL_remember 4 [(0, 16, 19, 24)] 3 := KW.of wMl_L_129 wSt_L_remember wIn_L wCw_L_remember (by decide +kernel)
theorem wSt_L_pay : .static yL_pay ∈ WG := wg_t 773 (by decide +kernel) (by decide +kernel)
theorem wCw_L_pay : .codeWith yL_pay cL_pay 4 (some .int) [(0, 9, 12, 24)] ∈ WG := wg_t 774 (by decide +kernel) (by decide +kernel)
theorem kW_L_132 : KW RL 132 yL_pay cL_pay 4 [(0, 9, 12, 24)] 3 := KW.of wMl_L_132 wSt_L_pay wIn_L wCw_L_pay (by decide +kernel)
theorem wSt_L_pass : .static yL_pass ∈ WG := wg_t 780 (by decide +kernel) (by decide +kernel)
theorem wCw_L_pass : .codeWith yL_pass cL_pass 4 (some .int) [(0, 9, 12, 13), (0, 9, 15, 15)] ∈ WG := wg_t 781 (by decide +kernel) (by decide +kernel)
theorem kW_L_135 : KW RL 135 yL_pass cL_pass 4 [(0, 9, 12, 13), (0, 9, 15, 15)] 3 := KW.of wMl_L_135 wSt_L_pass wIn_L wCw_L_pass (by decide +kernel)
theorem wSt_L_ofWall : .static yL_ofWall ∈ WG := wg_t 793 (by decide +kernel) (by decide +kernel)
theorem wCw_L_ofWall : .codeWith yL_ofWall cL_ofWall 5 (some .int) [(0, 10, 13, 24), (0, 10, 17, 13)] ∈ WG := wg_t 794 (by decide +kernel) (by decide +kernel)
theorem kW_L_138 : KW RL 138 yL_ofWall cL_ofWall 5 [(0, 10, 13, 24), (0, 10, 17, 13)] 4 := KW.of wMl_L_138 wSt_L_ofWall wIn_L wCw_L_ofWall (by decide +kernel)
theorem wSt_L_shows : .static yL_shows ∈ WG := wg_t 797 (by decide +kernel) (by decide +kernel)
theorem wCw_L_shows : .codeWith yL_shows cL_shows 5 (some .int) [(0, 10, 13, 24)] ∈ WG := wg_t 798 (by decide +kernel) (by decide +kernel)
theorem kW_L_142 : KW RL 142 yL_shows cL_shows 5 [(0, 10, 13, 24)] 4 := KW.of wMl_L_142 wSt_L_shows wIn_L wCw_L_shows (by decide +kernel)
theorem wSt_L_ofHand : .static yL_ofHand ∈ WG := wg_t 801 (by decide +kernel) (by decide +kernel)
theorem wCw_L_ofHand : .codeWith yL_ofHand cL_ofHand 5 (some .int) [(0, 10, 13, 24), (0, 10, 17, 13)] ∈ WG := wg_t 802 (by decide +kernel) (by decide +kernel)
theorem kW_L_145 : KW RL 145 yL_ofHand cL_ofHand 5 [(0, 10, 13, 24), (0, 10, 17, 13)] 4 := KW.of wMl_L_145 wSt_L_ofHand wIn_L wCw_L_ofHand (by decide +kernel)
theorem wSt_L_ofLayer : .static yL_ofLayer ∈ WG := wg_t 805 (by decide +kernel) (by decide +kernel)
theorem wCw_L_ofLayer : .codeWith yL_ofLayer cL_ofLayer 5 (some .int) [(0, 10, 13, 24), (0, 10, 17, 13)] ∈ WG := wg_t 806 (by decide +kernel) (by decide +kernel)
theorem kW_L_148 : KW RL 148 yL_ofLayer cL_ofLayer 5 [(0, 10, 13, 24), (0, 10, 17, 13)] 4 := KW.of wMl_L_148 wSt_L_ofLayer wIn_L wCw_L_ofLayer (by decide +kernel)
theorem wSt_L_wrongs : .static yL_wrongs ∈ WG := wg_t 809 (by decide +kernel) (by decide +kernel)
theorem wCw_L_wrongs : .codeWith yL_wrongs cL_wrongs 5 (some .int) [(0, 10, 13, 24)] ∈ WG := wg_t 810 (by decide +kernel) (by decide +kernel)
theorem kW_L_151 : KW RL 151 yL_wrongs cL_wrongs 5 [(0, 10, 13, 24)] 4 := KW.of wMl_L_151 wSt_L_wrongs wIn_L wCw_L_wrongs (by decide +kernel)
theorem wSt_L_likeness : .static yL_likeness ∈ WG := wg_t 813 (by decide +kernel) (by decide +kernel)
theorem wCw_L_likeness : .codeWith yL_likeness cL_likeness 5 (some .int) [(0, 10, 13, 24)] ∈ WG := wg_t 814 (by decide +kernel) (by decide +kernel)
theorem kW_L_154 : KW RL 154 yL_likeness cL_likeness 5 [(0, 10, 13, 24)] 4 := KW.of wMl_L_154 wSt_L_likeness wIn_L wCw_L_likeness (by decide +kernel)
theorem wSt_L_many : .static yL_many ∈ WG := wg_t 820 (by decide +kernel) (by decide +kernel)
theorem wCw_L_many : .codeWith yL_many cL_many 4 (some .int) [(0, 9, 12, 13)] ∈ WG := wg_t 821 (by decide +kernel) (by decide +kernel)
theorem kW_L_157 : KW RL 157 yL_many cL_many 4 [(0, 9, 12, 13)] 3 := KW.of wMl_L_157 wSt_L_many wIn_L wCw_L_many (by decide +kernel)
theorem wSt_L_bestFrom : .static yL_bestFrom ∈ WG := wg_t 824 (by decide +kernel) (by decide +kernel)
theorem wCw_L_bestFrom : .codeWith yL_bestFrom cL_bestFrom 7 (some .int) [(0, 14, 17, 24), (0, 14, 21, 13)] ∈ WG := wg_t 825 (by decide +kernel) (by decide +kernel)
theorem kW_L_165 : KW RL 165 yL_bestFrom cL_bestFrom 7 [(0, 14, 17, 24), (0, 14, 21, 13)] 6 := KW.of wMl_L_165 wSt_L_bestFrom wIn_L wCw_L_bestFrom (by decide +kernel)
theorem wSt_L_wouldWrong : .static yL_wouldWrong ∈ WG := wg_t 828 (by decide +kernel) (by decide +kernel)
theorem wCw_L_wouldWrong : .codeWith yL_wouldWrong cL_wouldWrong 8 (some .int) [(0, 16, 19, 24), (0, 16, 23, 13)] ∈ WG := wg_t 829 (by decide +kernel) (by decide +kernel)
theorem kW_L_168 : KW RL 168 yL_wouldWrong cL_wouldWrong 8 [(0, 16, 19, 24), (0, 16, 23, 13)] 7 := KW.of wMl_L_168 wSt_L_wouldWrong wIn_L wCw_L_wouldWrong (by decide +kernel)
theorem wSt_L_wouldFame : .static yL_wouldFame ∈ WG := wg_t 835 (by decide +kernel) (by decide +kernel)
theorem wCw_L_wouldFame : .codeWith yL_wouldFame cL_wouldFame 5 (some .int) [(0, 10, 13, 24), (0, 10, 17, 13)] ∈ WG := wg_t 836 (by decide +kernel) (by decide +kernel)
theorem kW_L_176 : KW RL 176 yL_wouldFame cL_wouldFame 5 [(0, 10, 13, 24), (0, 10, 17, 13)] 4 := KW.of wMl_L_176 wSt_L_wouldFame wIn_L wCw_L_wouldFame (by decide +kernel)
section CAS
variable {p : Program} {l : Launch} {e : Env} {s : State} {m : MethodId} {below : List Frame} {meth : Method} {co : Code} {bb Ln : Nat} {xs : Nat → Int32} {E : En} {Q : State → Prop}
abbrev KK (p : Program) (l : Launch) (e : Env) (s : State) (m : MethodId) (below : List Frame) (meth : Method) (co : Code) (bb : Nat) (E : En) (Q : State → Prop) (x mm out ii cells slots : Nat) : Prop := ∀ (c' : Cy) (th' : Int32) (v' : Int64) (H1 : Heap) (locs1 : List Loc) (ls1 : Array Slot), LT E s.heap x mm out c' c' th' v' H1 locs1 → lv_has ls1 9 [(4, .int (nI ii)), (0, .ref bb), (1, .ref x), (2, .ref mm), (3, .ref out)] → W p l e room_1 s m #[Value.ref bb] below meth co H1 locs1 (cells + 1100) (slots + 14000) Q (F0 m 1820 ls1 [])
set_option maxHeartbeats 4000000 in
set_option maxRecDepth 100000 in
theorem lc_wall_b1 (C0 : LC p l s m co E bb Ln xs) {c : Cy} {th : Int32} {v0 : Int64} {H : Heap} {locs : List Loc} {x mm out : Nat} (hT : LT E s.heap x mm out c c th v0 H locs) {ii : Nat} (hii : ii + 7 ≤ Ln) {cells slots : Nat} (hcs : cells + 1100 ≤ 609960 ∧ slots + 14000 ≤ 7266223) {ls : Array Slot} (hl : lv_has ls 9 [(4, .int (nI ii)), (0, .ref bb), (1, .ref x), (2, .ref mm), (3, .ref out)]) (kk : KK p l e s m below meth co bb E Q x mm out ii cells slots) (a b o v : Int32) (hq1 : xs (ii + 1) = a) (hq2 : xs (ii + 2) = b) (hq3 : xs (ii + 3) = o) (hq4 : xs (ii + 4) = v) (ha : walOK a b o v = false) : W p l e room_1 s m #[Value.ref bb] below meth co H locs cells slots Q (F0 m 156 ls []) := by
  obtain ⟨hx, hb, hml, hown, hC, hNc, hXs, hbl, hE0, hst, hLn⟩ := C0
  have hAb : ∀ q, bA E q → bA E q := fun _ h => h
  have hbb : ¬ bA E bb := by show ¬ E.2 0 ≤ bb; rw [hE0]; exact Nat.not_le.mpr hbl
  obtain ⟨ly, L, ad, ly', L', ad', hX, hM, hx0, hm0, hdj, hoL, hoM, hO, hob, hS⟩ := hT
  have hLb := hX.2.2.1
  have hLbM := hM.2.2.1
  have hz0 : ∀ q, H.size ≤ q → bA E q := fun q z => by show E.2 0 ≤ q; rw [hE0]; exact Nat.le_trans hS.1 z
  refine lv_aload_n hx hb dL_law_156 rfl (lv_at hl 2 rfl) ?_
  refine lv_aload_n hx hb dL_law_157 rfl (lv_at hl 1 rfl) ?_
  refine lv_iload hx hb dL_law_158 (lv_at hl 0 rfl) ?_
  refine lv_iconstN hx hb 1 dL_law_160 (by decide) ?_
  refine lv_iaddN hx hb dL_law_161 ?_
  refine lw_sld hx hb hXs hbl hbb hS (show ii + 1 < Ln by omega) hLn dL_law_162 ?_
  rw [hq1]
  refine lv_aload_n hx hb dL_law_163 rfl (lv_at hl 1 rfl) ?_
  refine lv_iload hx hb dL_law_164 (lv_at hl 0 rfl) ?_
  refine lv_iconstN hx hb 2 dL_law_166 (by decide) ?_
  refine lv_iaddN hx hb dL_law_167 ?_
  refine lw_sld hx hb hXs hbl hbb hS (show ii + 2 < Ln by omega) hLn dL_law_168 ?_
  rw [hq2]
  refine lv_aload_n hx hb dL_law_169 rfl (lv_at hl 1 rfl) ?_
  refine lv_iload hx hb dL_law_170 (lv_at hl 0 rfl) ?_
  refine lv_iconstN hx hb 3 dL_law_172 (by decide) ?_
  refine lv_iaddN hx hb dL_law_173 ?_
  refine lw_sld hx hb hXs hbl hbb hS (show ii + 3 < Ln by omega) hLn dL_law_174 ?_
  rw [hq3]
  refine lv_aload_n hx hb dL_law_175 rfl (lv_at hl 1 rfl) ?_
  refine lv_iload hx hb dL_law_176 (lv_at hl 0 rfl) ?_
  refine lv_iconstN hx hb 4 dL_law_178 (by decide) ?_
  refine lv_iaddN hx hb dL_law_179 ?_
  refine lw_sld hx hb hXs hbl hbb hS (show ii + 4 < Ln by omega) hLn dL_law_180 ?_
  rw [hq4]
  refine lv_aload_n hx hb dL_law_181 rfl (lv_at hl 4 rfl) ?_
  have hMt := mL_wall_b1 l hst hX hO hoL hob a b o v ha
  rw [hx0] at hMt
  refine lw_S (As := [.ref x, .int a, .int b, .int o, .int v, .ref out]) (rest := []) hx hb hml hown hC hNc hS hAb hMt (fun q h => h.elim (hLb q) (fun h => h.elim (fun h => by rw [h]; exact hob) (hz0 q))) kW_L_92 ⟨rfl, rfl⟩ ⟨Nat.le_of_ble_eq_true rfl, Nat.le_of_ble_eq_true rfl⟩ rfl hl (Nat.le_of_ble_eq_true rfl) ⟨show cells + 1 ≤ 609960 by omega, show slots + 6 ≤ 7266223 by omega⟩ dL_law_182 (fun H locs hB hS1 hz hkk => ?_)
  have hT := lt_x hX hM hx0 hm0 hdj hoL hoM hO hob hB hkk hS1
  obtain ⟨ly, L, ad, ly', L', ad', hX, hM, hx0, hm0, hdj, hoL, hoM, hO, hob, hS⟩ := hT
  have hLb := hX.2.2.1
  have hLbM := hM.2.2.1
  have hz0 : ∀ q, H.size ≤ q → bA E q := fun q z => by show E.2 0 ≤ q; rw [hE0]; exact Nat.le_trans hS.1 z
  refine lv_istore (lv' := [(5, .int (nI 1)), (4, .int (nI ii)), (0, .ref bb), (1, .ref x), (2, .ref mm), (3, .ref out)]) hx hb dL_law_185 hl (by decide) rfl (fun ls hl => ?_)
  refine lv_aload_n hx hb dL_law_187 rfl (lv_at hl 4 rfl) ?_
  refine lv_aload_n hx hb dL_law_188 rfl (lv_at hl 2 rfl) ?_
  refine lv_iload hx hb dL_law_189 (lv_at hl 1 rfl) ?_
  refine lv_iconstN hx hb 1 dL_law_191 (by decide) ?_
  refine lv_iaddN hx hb dL_law_192 ?_
  refine lw_sld hx hb hXs hbl hbb hS (show ii + 1 < Ln by omega) hLn dL_law_193 ?_
  rw [hq1]
  refine lv_aload_n hx hb dL_law_194 rfl (lv_at hl 2 rfl) ?_
  refine lv_iload hx hb dL_law_195 (lv_at hl 1 rfl) ?_
  refine lv_iconstN hx hb 2 dL_law_197 (by decide) ?_
  refine lv_iaddN hx hb dL_law_198 ?_
  refine lw_sld hx hb hXs hbl hbb hS (show ii + 2 < Ln by omega) hLn dL_law_199 ?_
  rw [hq2]
  refine lv_aload_n hx hb dL_law_200 rfl (lv_at hl 2 rfl) ?_
  refine lv_iload hx hb dL_law_201 (lv_at hl 1 rfl) ?_
  refine lv_iconstN hx hb 3 dL_law_203 (by decide) ?_
  refine lv_iaddN hx hb dL_law_204 ?_
  refine lw_sld hx hb hXs hbl hbb hS (show ii + 3 < Ln by omega) hLn dL_law_205 ?_
  rw [hq3]
  refine lv_aload_n hx hb dL_law_206 rfl (lv_at hl 2 rfl) ?_
  refine lv_iload hx hb dL_law_207 (lv_at hl 1 rfl) ?_
  refine lv_iconstN hx hb 4 dL_law_209 (by decide) ?_
  refine lv_iaddN hx hb dL_law_210 ?_
  refine lw_sld hx hb hXs hbl hbb hS (show ii + 4 < Ln by omega) hLn dL_law_211 ?_
  rw [hq4]
  have hMt := mX7_wall_b1 l hM a b o v ha
  rw [hm0] at hMt
  refine mu_V (As := [.int a, .int b, .int o, .int v]) (h0 := mm) (rest := []) (v := nI 0) hx hb hml hown hC hS hAb hMt (fun q h => h.elim (hLbM q) (hz0 q)) kV_L_97 ⟨rfl, rfl⟩ ⟨Nat.le_of_ble_eq_true rfl, Nat.le_of_ble_eq_true rfl⟩ (by rw [← hm0]; exact hM.1.recv hC cM_0 rfl) rfl hl (Nat.le_of_ble_eq_true rfl) ⟨show cells + 1 + 0 ≤ 609960 by omega, show slots + 6 + 0 ≤ 7266223 by omega⟩ dL_law_212 (fun H locs hB hS1 hz hkk => ?_)
  have hT := lt_m hX hM hx0 hm0 hdj hoL hoM hO hob ⟨L', ly', ad', hB, hm0, fun q h => Or.inl h⟩ hkk hS1
  obtain ⟨ly, L, ad, ly', L', ad', hX, hM, hx0, hm0, hdj, hoL, hoM, hO, hob, hS⟩ := hT
  have hLb := hX.2.2.1
  have hLbM := hM.2.2.1
  have hz0 : ∀ q, H.size ≤ q → bA E q := fun q z => by show E.2 0 ≤ q; rw [hE0]; exact Nat.le_trans hS.1 z
  refine lv_istore (lv' := [(6, .int (nI 0)), (5, .int (nI 1)), (4, .int (nI ii)), (0, .ref bb), (1, .ref x), (2, .ref mm), (3, .ref out)]) hx hb dL_law_215 hl (by decide) rfl (fun ls hl => ?_)
  refine lv_aload_n hx hb dL_law_217 rfl (lv_at hl 5 rfl) ?_
  have hMt := mX7_thrown l hM
  rw [hm0] at hMt
  refine ro_V (As := []) (h0 := mm) (rest := []) (v := nI 1) hx hb hml hown hC hS hAb hMt kV_L_98 ⟨rfl, rfl⟩ ⟨Nat.le_of_ble_eq_true rfl, Nat.le_of_ble_eq_true rfl⟩ (by rw [← hm0]; exact hM.1.recv hC cM_0 rfl) rfl hl (Nat.le_of_ble_eq_true rfl) ⟨show cells + 1 + 0 ≤ 609960 by omega, show slots + 6 + 0 ≤ 7266223 by omega⟩ dL_law_218 ?_
  refine lv_iload hx hb dL_law_221 (lv_at hl 1 rfl) ?_
  refine lv_icmp_eq (tgt := 228) hx hb dL_law_223 (by decide) (fun _ => ?_) (fun c9 => absurd rfl c9)
  refine lv_iload hx hb dL_law_228 (lv_at hl 1 rfl) ?_
  have hT : LT E s.heap x mm out _ _ _ _ H locs := ⟨ly, L, ad, ly', L', ad', hX, hM, hx0, hm0, hdj, hoL, hoM, hO, hob, hS⟩
  refine lv_if_ne (tgt := 245) hx hb dL_law_230 (by decide) (fun _ => ?_) (fun c9 => absurd c9 (by decide))
  refine lv_goto (tgt := 1820) hx hb dL_law_245 (by decide) ?_
  refine W.widen (k := cells + 1100) (n := slots + 14000) (by omega) (by omega) ?_
  exact kk _ _ _ _ _ _ hT (lv_sub hl [2, 3, 4, 5, 6] rfl)
set_option maxHeartbeats 4000000 in
set_option maxRecDepth 100000 in
theorem lc_wall_b2 (C0 : LC p l s m co E bb Ln xs) {c : Cy} {th : Int32} {v0 : Int64} {H : Heap} {locs : List Loc} {x mm out : Nat} (hT : LT E s.heap x mm out c c th v0 H locs) {ii : Nat} (hii : ii + 7 ≤ Ln) {cells slots : Nat} (hcs : cells + 1100 ≤ 609960 ∧ slots + 14000 ≤ 7266223) {ls : Array Slot} (hl : lv_has ls 9 [(4, .int (nI ii)), (0, .ref bb), (1, .ref x), (2, .ref mm), (3, .ref out)]) (kk : KK p l e s m below meth co bb E Q x mm out ii cells slots) (a b o v : Int32) (hq1 : xs (ii + 1) = a) (hq2 : xs (ii + 2) = b) (hq3 : xs (ii + 3) = o) (hq4 : xs (ii + 4) = v) (ha : walOK a b o v = true) (hs : 6 ≤ c.R 10 0) : W p l e room_1 s m #[Value.ref bb] below meth co H locs cells slots Q (F0 m 156 ls []) := by
  obtain ⟨hx, hb, hml, hown, hC, hNc, hXs, hbl, hE0, hst, hLn⟩ := C0
  have hAb : ∀ q, bA E q → bA E q := fun _ h => h
  have hbb : ¬ bA E bb := by show ¬ E.2 0 ≤ bb; rw [hE0]; exact Nat.not_le.mpr hbl
  obtain ⟨ly, L, ad, ly', L', ad', hX, hM, hx0, hm0, hdj, hoL, hoM, hO, hob, hS⟩ := hT
  have hLb := hX.2.2.1
  have hLbM := hM.2.2.1
  have hz0 : ∀ q, H.size ≤ q → bA E q := fun q z => by show E.2 0 ≤ q; rw [hE0]; exact Nat.le_trans hS.1 z
  refine lv_aload_n hx hb dL_law_156 rfl (lv_at hl 2 rfl) ?_
  refine lv_aload_n hx hb dL_law_157 rfl (lv_at hl 1 rfl) ?_
  refine lv_iload hx hb dL_law_158 (lv_at hl 0 rfl) ?_
  refine lv_iconstN hx hb 1 dL_law_160 (by decide) ?_
  refine lv_iaddN hx hb dL_law_161 ?_
  refine lw_sld hx hb hXs hbl hbb hS (show ii + 1 < Ln by omega) hLn dL_law_162 ?_
  rw [hq1]
  refine lv_aload_n hx hb dL_law_163 rfl (lv_at hl 1 rfl) ?_
  refine lv_iload hx hb dL_law_164 (lv_at hl 0 rfl) ?_
  refine lv_iconstN hx hb 2 dL_law_166 (by decide) ?_
  refine lv_iaddN hx hb dL_law_167 ?_
  refine lw_sld hx hb hXs hbl hbb hS (show ii + 2 < Ln by omega) hLn dL_law_168 ?_
  rw [hq2]
  refine lv_aload_n hx hb dL_law_169 rfl (lv_at hl 1 rfl) ?_
  refine lv_iload hx hb dL_law_170 (lv_at hl 0 rfl) ?_
  refine lv_iconstN hx hb 3 dL_law_172 (by decide) ?_
  refine lv_iaddN hx hb dL_law_173 ?_
  refine lw_sld hx hb hXs hbl hbb hS (show ii + 3 < Ln by omega) hLn dL_law_174 ?_
  rw [hq3]
  refine lv_aload_n hx hb dL_law_175 rfl (lv_at hl 1 rfl) ?_
  refine lv_iload hx hb dL_law_176 (lv_at hl 0 rfl) ?_
  refine lv_iconstN hx hb 4 dL_law_178 (by decide) ?_
  refine lv_iaddN hx hb dL_law_179 ?_
  refine lw_sld hx hb hXs hbl hbb hS (show ii + 4 < Ln by omega) hLn dL_law_180 ?_
  rw [hq4]
  refine lv_aload_n hx hb dL_law_181 rfl (lv_at hl 4 rfl) ?_
  have hMt := mL_wall_b2 l hst hX hO hoL hob a b o v ha hs
  rw [hx0] at hMt
  refine lw_S (As := [.ref x, .int a, .int b, .int o, .int v, .ref out]) (rest := []) hx hb hml hown hC hNc hS hAb hMt (fun q h => h.elim (hLb q) (fun h => h.elim (fun h => by rw [h]; exact hob) (hz0 q))) kW_L_92 ⟨rfl, rfl⟩ ⟨Nat.le_of_ble_eq_true rfl, Nat.le_of_ble_eq_true rfl⟩ rfl hl (Nat.le_of_ble_eq_true rfl) ⟨show cells + 1 ≤ 609960 by omega, show slots + 6 ≤ 7266223 by omega⟩ dL_law_182 (fun H locs hB hS1 hz hkk => ?_)
  have hT := lt_x hX hM hx0 hm0 hdj hoL hoM hO hob hB hkk hS1
  obtain ⟨ly, L, ad, ly', L', ad', hX, hM, hx0, hm0, hdj, hoL, hoM, hO, hob, hS⟩ := hT
  have hLb := hX.2.2.1
  have hLbM := hM.2.2.1
  have hz0 : ∀ q, H.size ≤ q → bA E q := fun q z => by show E.2 0 ≤ q; rw [hE0]; exact Nat.le_trans hS.1 z
  refine lv_istore (lv' := [(5, .int (nI 2)), (4, .int (nI ii)), (0, .ref bb), (1, .ref x), (2, .ref mm), (3, .ref out)]) hx hb dL_law_185 hl (by decide) rfl (fun ls hl => ?_)
  refine lv_aload_n hx hb dL_law_187 rfl (lv_at hl 4 rfl) ?_
  refine lv_aload_n hx hb dL_law_188 rfl (lv_at hl 2 rfl) ?_
  refine lv_iload hx hb dL_law_189 (lv_at hl 1 rfl) ?_
  refine lv_iconstN hx hb 1 dL_law_191 (by decide) ?_
  refine lv_iaddN hx hb dL_law_192 ?_
  refine lw_sld hx hb hXs hbl hbb hS (show ii + 1 < Ln by omega) hLn dL_law_193 ?_
  rw [hq1]
  refine lv_aload_n hx hb dL_law_194 rfl (lv_at hl 2 rfl) ?_
  refine lv_iload hx hb dL_law_195 (lv_at hl 1 rfl) ?_
  refine lv_iconstN hx hb 2 dL_law_197 (by decide) ?_
  refine lv_iaddN hx hb dL_law_198 ?_
  refine lw_sld hx hb hXs hbl hbb hS (show ii + 2 < Ln by omega) hLn dL_law_199 ?_
  rw [hq2]
  refine lv_aload_n hx hb dL_law_200 rfl (lv_at hl 2 rfl) ?_
  refine lv_iload hx hb dL_law_201 (lv_at hl 1 rfl) ?_
  refine lv_iconstN hx hb 3 dL_law_203 (by decide) ?_
  refine lv_iaddN hx hb dL_law_204 ?_
  refine lw_sld hx hb hXs hbl hbb hS (show ii + 3 < Ln by omega) hLn dL_law_205 ?_
  rw [hq3]
  refine lv_aload_n hx hb dL_law_206 rfl (lv_at hl 2 rfl) ?_
  refine lv_iload hx hb dL_law_207 (lv_at hl 1 rfl) ?_
  refine lv_iconstN hx hb 4 dL_law_209 (by decide) ?_
  refine lv_iaddN hx hb dL_law_210 ?_
  refine lw_sld hx hb hXs hbl hbb hS (show ii + 4 < Ln by omega) hLn dL_law_211 ?_
  rw [hq4]
  have hMt := mX7_wall_b2 l hM a b o v ha hs
  rw [hm0] at hMt
  refine mu_V (As := [.int a, .int b, .int o, .int v]) (h0 := mm) (rest := []) (v := nI 0) hx hb hml hown hC hS hAb hMt (fun q h => h.elim (hLbM q) (hz0 q)) kV_L_97 ⟨rfl, rfl⟩ ⟨Nat.le_of_ble_eq_true rfl, Nat.le_of_ble_eq_true rfl⟩ (by rw [← hm0]; exact hM.1.recv hC cM_0 rfl) rfl hl (Nat.le_of_ble_eq_true rfl) ⟨show cells + 1 + 0 ≤ 609960 by omega, show slots + 6 + 0 ≤ 7266223 by omega⟩ dL_law_212 (fun H locs hB hS1 hz hkk => ?_)
  have hT := lt_m hX hM hx0 hm0 hdj hoL hoM hO hob ⟨L', ly', ad', hB, hm0, fun q h => Or.inl h⟩ hkk hS1
  obtain ⟨ly, L, ad, ly', L', ad', hX, hM, hx0, hm0, hdj, hoL, hoM, hO, hob, hS⟩ := hT
  have hLb := hX.2.2.1
  have hLbM := hM.2.2.1
  have hz0 : ∀ q, H.size ≤ q → bA E q := fun q z => by show E.2 0 ≤ q; rw [hE0]; exact Nat.le_trans hS.1 z
  refine lv_istore (lv' := [(6, .int (nI 0)), (5, .int (nI 2)), (4, .int (nI ii)), (0, .ref bb), (1, .ref x), (2, .ref mm), (3, .ref out)]) hx hb dL_law_215 hl (by decide) rfl (fun ls hl => ?_)
  refine lv_aload_n hx hb dL_law_217 rfl (lv_at hl 5 rfl) ?_
  have hMt := mX7_thrown l hM
  rw [hm0] at hMt
  refine ro_V (As := []) (h0 := mm) (rest := []) (v := nI 2) hx hb hml hown hC hS hAb hMt kV_L_98 ⟨rfl, rfl⟩ ⟨Nat.le_of_ble_eq_true rfl, Nat.le_of_ble_eq_true rfl⟩ (by rw [← hm0]; exact hM.1.recv hC cM_0 rfl) rfl hl (Nat.le_of_ble_eq_true rfl) ⟨show cells + 1 + 0 ≤ 609960 by omega, show slots + 6 + 0 ≤ 7266223 by omega⟩ dL_law_218 ?_
  refine lv_iload hx hb dL_law_221 (lv_at hl 1 rfl) ?_
  refine lv_icmp_eq (tgt := 228) hx hb dL_law_223 (by decide) (fun _ => ?_) (fun c9 => absurd rfl c9)
  refine lv_iload hx hb dL_law_228 (lv_at hl 1 rfl) ?_
  have hT : LT E s.heap x mm out _ _ _ _ H locs := ⟨ly, L, ad, ly', L', ad', hX, hM, hx0, hm0, hdj, hoL, hoM, hO, hob, hS⟩
  refine lv_if_ne (tgt := 245) hx hb dL_law_230 (by decide) (fun _ => ?_) (fun c9 => absurd c9 (by decide))
  refine lv_goto (tgt := 1820) hx hb dL_law_245 (by decide) ?_
  refine W.widen (k := cells + 1100) (n := slots + 14000) (by omega) (by omega) ?_
  exact kk _ _ _ _ _ _ hT (lv_sub hl [2, 3, 4, 5, 6] rfl)
set_option maxHeartbeats 4000000 in
set_option maxRecDepth 100000 in
theorem lc_wall_g (C0 : LC p l s m co E bb Ln xs) {c : Cy} {th : Int32} {v0 : Int64} {H : Heap} {locs : List Loc} {x mm out : Nat} (hT : LT E s.heap x mm out c c th v0 H locs) {ii : Nat} (hii : ii + 7 ≤ Ln) {cells slots : Nat} (hcs : cells + 1100 ≤ 609960 ∧ slots + 14000 ≤ 7266223) {ls : Array Slot} (hl : lv_has ls 9 [(4, .int (nI ii)), (0, .ref bb), (1, .ref x), (2, .ref mm), (3, .ref out)]) (kk : KK p l e s m below meth co bb E Q x mm out ii cells slots) (w cl : Nat) (sg ow : Int32) (hq1 : xs (ii + 1) = nI w) (hq2 : xs (ii + 2) = sg) (hq3 : xs (ii + 3) = ow) (hq4 : xs (ii + 4) = nI cl) (hw : 4 ≤ w) (hw2 : w ≤ 16) (hg : ∃ q : Nat, 1 ≤ q ∧ q ≤ 9 ∧ sg = nI q) (hg2 : isInS sg (nI 1) (nI 9) = true) (ho : isInS ow (nI 0) (nI 3) = true) (hc : cl = 0 ∨ 2 ≤ cl) (hc2 : cl ≤ 20) (hs : c.R 10 0 < 6) (heq : c.R 10 0 = c.R 11 0) : W p l e room_1 s m #[Value.ref bb] below meth co H locs cells slots Q (F0 m 156 ls []) := by
  obtain ⟨hx, hb, hml, hown, hC, hNc, hXs, hbl, hE0, hst, hLn⟩ := C0
  have hAb : ∀ q, bA E q → bA E q := fun _ h => h
  have hbb : ¬ bA E bb := by show ¬ E.2 0 ≤ bb; rw [hE0]; exact Nat.not_le.mpr hbl
  obtain ⟨ly, L, ad, ly', L', ad', hX, hM, hx0, hm0, hdj, hoL, hoM, hO, hob, hS⟩ := hT
  have hLb := hX.2.2.1
  have hLbM := hM.2.2.1
  have hz0 : ∀ q, H.size ≤ q → bA E q := fun q z => by show E.2 0 ≤ q; rw [hE0]; exact Nat.le_trans hS.1 z
  refine lv_aload_n hx hb dL_law_156 rfl (lv_at hl 2 rfl) ?_
  refine lv_aload_n hx hb dL_law_157 rfl (lv_at hl 1 rfl) ?_
  refine lv_iload hx hb dL_law_158 (lv_at hl 0 rfl) ?_
  refine lv_iconstN hx hb 1 dL_law_160 (by decide) ?_
  refine lv_iaddN hx hb dL_law_161 ?_
  refine lw_sld hx hb hXs hbl hbb hS (show ii + 1 < Ln by omega) hLn dL_law_162 ?_
  rw [hq1]
  refine lv_aload_n hx hb dL_law_163 rfl (lv_at hl 1 rfl) ?_
  refine lv_iload hx hb dL_law_164 (lv_at hl 0 rfl) ?_
  refine lv_iconstN hx hb 2 dL_law_166 (by decide) ?_
  refine lv_iaddN hx hb dL_law_167 ?_
  refine lw_sld hx hb hXs hbl hbb hS (show ii + 2 < Ln by omega) hLn dL_law_168 ?_
  rw [hq2]
  refine lv_aload_n hx hb dL_law_169 rfl (lv_at hl 1 rfl) ?_
  refine lv_iload hx hb dL_law_170 (lv_at hl 0 rfl) ?_
  refine lv_iconstN hx hb 3 dL_law_172 (by decide) ?_
  refine lv_iaddN hx hb dL_law_173 ?_
  refine lw_sld hx hb hXs hbl hbb hS (show ii + 3 < Ln by omega) hLn dL_law_174 ?_
  rw [hq3]
  refine lv_aload_n hx hb dL_law_175 rfl (lv_at hl 1 rfl) ?_
  refine lv_iload hx hb dL_law_176 (lv_at hl 0 rfl) ?_
  refine lv_iconstN hx hb 4 dL_law_178 (by decide) ?_
  refine lv_iaddN hx hb dL_law_179 ?_
  refine lw_sld hx hb hXs hbl hbb hS (show ii + 4 < Ln by omega) hLn dL_law_180 ?_
  rw [hq4]
  refine lv_aload_n hx hb dL_law_181 rfl (lv_at hl 4 rfl) ?_
  have hMt := mL_wall_g l hX hO hoL hob w cl sg ow hw hw2 hg hg2 ho hc hc2 hs heq
  rw [hx0] at hMt
  refine lw_S (As := [.ref x, .int (nI w), .int sg, .int ow, .int (nI cl), .ref out]) (rest := []) hx hb hml hown hC hNc hS hAb hMt (fun q h => h.elim (hLb q) (fun h => h.elim (fun h => by rw [h]; exact hob) (hz0 q))) kW_L_92 ⟨rfl, rfl⟩ ⟨Nat.le_of_ble_eq_true rfl, Nat.le_of_ble_eq_true rfl⟩ rfl hl (Nat.le_of_ble_eq_true rfl) ⟨show cells + 3 ≤ 609960 by omega, show slots + 226 ≤ 7266223 by omega⟩ dL_law_182 (fun H locs hB hS1 hz hkk => ?_)
  have hT := lt_x hX hM hx0 hm0 hdj hoL hoM hO hob hB hkk hS1
  obtain ⟨ly, L, ad, ly', L', ad', hX, hM, hx0, hm0, hdj, hoL, hoM, hO, hob, hS⟩ := hT
  have hLb := hX.2.2.1
  have hLbM := hM.2.2.1
  have hz0 : ∀ q, H.size ≤ q → bA E q := fun q z => by show E.2 0 ≤ q; rw [hE0]; exact Nat.le_trans hS.1 z
  refine lv_istore (lv' := [(5, .int (nI 0)), (4, .int (nI ii)), (0, .ref bb), (1, .ref x), (2, .ref mm), (3, .ref out)]) hx hb dL_law_185 hl (by decide) rfl (fun ls hl => ?_)
  refine lv_aload_n hx hb dL_law_187 rfl (lv_at hl 4 rfl) ?_
  refine lv_aload_n hx hb dL_law_188 rfl (lv_at hl 2 rfl) ?_
  refine lv_iload hx hb dL_law_189 (lv_at hl 1 rfl) ?_
  refine lv_iconstN hx hb 1 dL_law_191 (by decide) ?_
  refine lv_iaddN hx hb dL_law_192 ?_
  refine lw_sld hx hb hXs hbl hbb hS (show ii + 1 < Ln by omega) hLn dL_law_193 ?_
  rw [hq1]
  refine lv_aload_n hx hb dL_law_194 rfl (lv_at hl 2 rfl) ?_
  refine lv_iload hx hb dL_law_195 (lv_at hl 1 rfl) ?_
  refine lv_iconstN hx hb 2 dL_law_197 (by decide) ?_
  refine lv_iaddN hx hb dL_law_198 ?_
  refine lw_sld hx hb hXs hbl hbb hS (show ii + 2 < Ln by omega) hLn dL_law_199 ?_
  rw [hq2]
  refine lv_aload_n hx hb dL_law_200 rfl (lv_at hl 2 rfl) ?_
  refine lv_iload hx hb dL_law_201 (lv_at hl 1 rfl) ?_
  refine lv_iconstN hx hb 3 dL_law_203 (by decide) ?_
  refine lv_iaddN hx hb dL_law_204 ?_
  refine lw_sld hx hb hXs hbl hbb hS (show ii + 3 < Ln by omega) hLn dL_law_205 ?_
  rw [hq3]
  refine lv_aload_n hx hb dL_law_206 rfl (lv_at hl 2 rfl) ?_
  refine lv_iload hx hb dL_law_207 (lv_at hl 1 rfl) ?_
  refine lv_iconstN hx hb 4 dL_law_209 (by decide) ?_
  refine lv_iaddN hx hb dL_law_210 ?_
  refine lw_sld hx hb hXs hbl hbb hS (show ii + 4 < Ln by omega) hLn dL_law_211 ?_
  rw [hq4]
  have hMt := mX7_wall_g l hM w cl sg ow hw hw2 hg hg2 ho hc hc2 hs
  rw [hm0] at hMt
  refine mu_V (As := [.int (nI w), .int sg, .int ow, .int (nI cl)]) (h0 := mm) (rest := []) (v := nI (c.R 10 0)) hx hb hml hown hC hS hAb hMt (fun q h => h.elim (hLbM q) (hz0 q)) kV_L_97 ⟨rfl, rfl⟩ ⟨Nat.le_of_ble_eq_true rfl, Nat.le_of_ble_eq_true rfl⟩ (by rw [← hm0]; exact hM.1.recv hC cM_0 rfl) rfl hl (Nat.le_of_ble_eq_true rfl) ⟨show cells + 3 + 3 ≤ 609960 by omega, show slots + 226 + 226 ≤ 7266223 by omega⟩ dL_law_212 (fun H locs hB hS1 hz hkk => ?_)
  have hT := lt_m hX hM hx0 hm0 hdj hoL hoM hO hob hB hkk hS1
  obtain ⟨ly, L, ad, ly', L', ad', hX, hM, hx0, hm0, hdj, hoL, hoM, hO, hob, hS⟩ := hT
  have hLb := hX.2.2.1
  have hLbM := hM.2.2.1
  have hz0 : ∀ q, H.size ≤ q → bA E q := fun q z => by show E.2 0 ≤ q; rw [hE0]; exact Nat.le_trans hS.1 z
  refine lv_istore (lv' := [(6, .int (nI (c.R 10 0))), (5, .int (nI 0)), (4, .int (nI ii)), (0, .ref bb), (1, .ref x), (2, .ref mm), (3, .ref out)]) hx hb dL_law_215 hl (by decide) rfl (fun ls hl => ?_)
  refine lv_aload_n hx hb dL_law_217 rfl (lv_at hl 5 rfl) ?_
  have hMt := mX7_thrown l hM
  rw [hm0] at hMt
  refine ro_V (As := []) (h0 := mm) (rest := []) (v := nI 0) hx hb hml hown hC hS hAb hMt kV_L_98 ⟨rfl, rfl⟩ ⟨Nat.le_of_ble_eq_true rfl, Nat.le_of_ble_eq_true rfl⟩ (by rw [← hm0]; exact hM.1.recv hC cM_0 rfl) rfl hl (Nat.le_of_ble_eq_true rfl) ⟨show cells + 6 + 0 ≤ 609960 by omega, show slots + 452 + 0 ≤ 7266223 by omega⟩ dL_law_218 ?_
  refine lv_iload hx hb dL_law_221 (lv_at hl 1 rfl) ?_
  refine lv_icmp_eq (tgt := 228) hx hb dL_law_223 (by decide) (fun _ => ?_) (fun c9 => absurd rfl c9)
  refine lv_iload hx hb dL_law_228 (lv_at hl 1 rfl) ?_
  have hT : LT E s.heap x mm out _ _ _ _ H locs := ⟨ly, L, ad, ly', L', ad', hX, hM, hx0, hm0, hdj, hoL, hoM, hO, hob, hS⟩
  refine lv_if_ne (tgt := 245) hx hb dL_law_230 (by decide) (fun c9 => absurd (by decide) c9) (fun _ => ?_)
  refine lv_aload_n hx hb dL_law_233 rfl (lv_at hl 6 rfl) ?_
  refine lv_iconstN hx hb 0 dL_law_234 (by decide) ?_
  refine lw_lald hx hb hC hO dL_law_235 ?_
  refine lv_iload hx hb dL_law_236 (lv_at hl 0 rfl) ?_
  refine lv_i2l (v := (nI (c.R 10 0)).toInt64) hx hb dL_law_238 rfl ?_
  refine W.lcmp hx hb dL_law_239 ?_
  rw [lg_self]
  refine lv_if_eq (tgt := 245) hx hb dL_law_240 (by decide) (fun _ => ?_) (fun c9 => absurd rfl c9)
  refine lv_goto (tgt := 1820) hx hb dL_law_245 (by decide) ?_
  refine W.widen (k := cells + 1100) (n := slots + 14000) (by omega) (by omega) ?_
  exact kk _ _ _ _ _ _ hT (lv_sub hl [2, 3, 4, 5, 6] rfl)
set_option maxHeartbeats 4000000 in
set_option maxRecDepth 100000 in
theorem lc_hand_b1 (C0 : LC p l s m co E bb Ln xs) {c : Cy} {th : Int32} {v0 : Int64} {H : Heap} {locs : List Loc} {x mm out : Nat} (hT : LT E s.heap x mm out c c th v0 H locs) {ii : Nat} (hii : ii + 7 ≤ Ln) {cells slots : Nat} (hcs : cells + 1100 ≤ 609960 ∧ slots + 14000 ≤ 7266223) {ls : Array Slot} (hl : lv_has ls 9 [(4, .int (nI ii)), (0, .ref bb), (1, .ref x), (2, .ref mm), (3, .ref out)]) (kk : KK p l e s m below meth co bb E Q x mm out ii cells slots) (a b o v : Int32) (hq1 : xs (ii + 1) = a) (hq2 : xs (ii + 2) = b) (hq3 : xs (ii + 3) = o) (hq4 : xs (ii + 4) = v) (ha : hanOK a b o v = false) : W p l e room_1 s m #[Value.ref bb] below meth co H locs cells slots Q (F0 m 248 ls []) := by
  obtain ⟨hx, hb, hml, hown, hC, hNc, hXs, hbl, hE0, hst, hLn⟩ := C0
  have hAb : ∀ q, bA E q → bA E q := fun _ h => h
  have hbb : ¬ bA E bb := by show ¬ E.2 0 ≤ bb; rw [hE0]; exact Nat.not_le.mpr hbl
  obtain ⟨ly, L, ad, ly', L', ad', hX, hM, hx0, hm0, hdj, hoL, hoM, hO, hob, hS⟩ := hT
  have hLb := hX.2.2.1
  have hLbM := hM.2.2.1
  have hz0 : ∀ q, H.size ≤ q → bA E q := fun q z => by show E.2 0 ≤ q; rw [hE0]; exact Nat.le_trans hS.1 z
  refine lv_aload_n hx hb dL_law_248 rfl (lv_at hl 2 rfl) ?_
  refine lv_aload_n hx hb dL_law_249 rfl (lv_at hl 1 rfl) ?_
  refine lv_iload hx hb dL_law_250 (lv_at hl 0 rfl) ?_
  refine lv_iconstN hx hb 1 dL_law_252 (by decide) ?_
  refine lv_iaddN hx hb dL_law_253 ?_
  refine lw_sld hx hb hXs hbl hbb hS (show ii + 1 < Ln by omega) hLn dL_law_254 ?_
  rw [hq1]
  refine lv_aload_n hx hb dL_law_255 rfl (lv_at hl 1 rfl) ?_
  refine lv_iload hx hb dL_law_256 (lv_at hl 0 rfl) ?_
  refine lv_iconstN hx hb 2 dL_law_258 (by decide) ?_
  refine lv_iaddN hx hb dL_law_259 ?_
  refine lw_sld hx hb hXs hbl hbb hS (show ii + 2 < Ln by omega) hLn dL_law_260 ?_
  rw [hq2]
  refine lv_aload_n hx hb dL_law_261 rfl (lv_at hl 1 rfl) ?_
  refine lv_iload hx hb dL_law_262 (lv_at hl 0 rfl) ?_
  refine lv_iconstN hx hb 3 dL_law_264 (by decide) ?_
  refine lv_iaddN hx hb dL_law_265 ?_
  refine lw_sld hx hb hXs hbl hbb hS (show ii + 3 < Ln by omega) hLn dL_law_266 ?_
  rw [hq3]
  refine lv_aload_n hx hb dL_law_267 rfl (lv_at hl 1 rfl) ?_
  refine lv_iload hx hb dL_law_268 (lv_at hl 0 rfl) ?_
  refine lv_iconstN hx hb 4 dL_law_270 (by decide) ?_
  refine lv_iaddN hx hb dL_law_271 ?_
  refine lw_sld hx hb hXs hbl hbb hS (show ii + 4 < Ln by omega) hLn dL_law_272 ?_
  rw [hq4]
  refine lv_aload_n hx hb dL_law_273 rfl (lv_at hl 4 rfl) ?_
  have hMt := mL_hand_b1 l hst hX hO hoL hob a b o v ha
  rw [hx0] at hMt
  refine lw_S (As := [.ref x, .int a, .int b, .int o, .int v, .ref out]) (rest := []) hx hb hml hown hC hNc hS hAb hMt (fun q h => h.elim (hLb q) (fun h => h.elim (fun h => by rw [h]; exact hob) (hz0 q))) kW_L_102 ⟨rfl, rfl⟩ ⟨Nat.le_of_ble_eq_true rfl, Nat.le_of_ble_eq_true rfl⟩ rfl hl (Nat.le_of_ble_eq_true rfl) ⟨show cells + 1 ≤ 609960 by omega, show slots + 6 ≤ 7266223 by omega⟩ dL_law_274 (fun H locs hB hS1 hz hkk => ?_)
  have hT := lt_x hX hM hx0 hm0 hdj hoL hoM hO hob hB hkk hS1
  obtain ⟨ly, L, ad, ly', L', ad', hX, hM, hx0, hm0, hdj, hoL, hoM, hO, hob, hS⟩ := hT
  have hLb := hX.2.2.1
  have hLbM := hM.2.2.1
  have hz0 : ∀ q, H.size ≤ q → bA E q := fun q z => by show E.2 0 ≤ q; rw [hE0]; exact Nat.le_trans hS.1 z
  refine lv_istore (lv' := [(5, .int (nI 1)), (4, .int (nI ii)), (0, .ref bb), (1, .ref x), (2, .ref mm), (3, .ref out)]) hx hb dL_law_277 hl (by decide) rfl (fun ls hl => ?_)
  refine lv_aload_n hx hb dL_law_279 rfl (lv_at hl 4 rfl) ?_
  refine lv_aload_n hx hb dL_law_280 rfl (lv_at hl 2 rfl) ?_
  refine lv_iload hx hb dL_law_281 (lv_at hl 1 rfl) ?_
  refine lv_iconstN hx hb 1 dL_law_283 (by decide) ?_
  refine lv_iaddN hx hb dL_law_284 ?_
  refine lw_sld hx hb hXs hbl hbb hS (show ii + 1 < Ln by omega) hLn dL_law_285 ?_
  rw [hq1]
  refine lv_aload_n hx hb dL_law_286 rfl (lv_at hl 2 rfl) ?_
  refine lv_iload hx hb dL_law_287 (lv_at hl 1 rfl) ?_
  refine lv_iconstN hx hb 2 dL_law_289 (by decide) ?_
  refine lv_iaddN hx hb dL_law_290 ?_
  refine lw_sld hx hb hXs hbl hbb hS (show ii + 2 < Ln by omega) hLn dL_law_291 ?_
  rw [hq2]
  refine lv_aload_n hx hb dL_law_292 rfl (lv_at hl 2 rfl) ?_
  refine lv_iload hx hb dL_law_293 (lv_at hl 1 rfl) ?_
  refine lv_iconstN hx hb 3 dL_law_295 (by decide) ?_
  refine lv_iaddN hx hb dL_law_296 ?_
  refine lw_sld hx hb hXs hbl hbb hS (show ii + 3 < Ln by omega) hLn dL_law_297 ?_
  rw [hq3]
  refine lv_aload_n hx hb dL_law_298 rfl (lv_at hl 2 rfl) ?_
  refine lv_iload hx hb dL_law_299 (lv_at hl 1 rfl) ?_
  refine lv_iconstN hx hb 4 dL_law_301 (by decide) ?_
  refine lv_iaddN hx hb dL_law_302 ?_
  refine lw_sld hx hb hXs hbl hbb hS (show ii + 4 < Ln by omega) hLn dL_law_303 ?_
  rw [hq4]
  have hMt := mX7_hand_b1 l hM a b o v ha
  rw [hm0] at hMt
  refine mu_V (As := [.int a, .int b, .int o, .int v]) (h0 := mm) (rest := []) (v := nI 0) hx hb hml hown hC hS hAb hMt (fun q h => h.elim (hLbM q) (hz0 q)) kV_L_104 ⟨rfl, rfl⟩ ⟨Nat.le_of_ble_eq_true rfl, Nat.le_of_ble_eq_true rfl⟩ (by rw [← hm0]; exact hM.1.recv hC cM_0 rfl) rfl hl (Nat.le_of_ble_eq_true rfl) ⟨show cells + 1 + 0 ≤ 609960 by omega, show slots + 6 + 0 ≤ 7266223 by omega⟩ dL_law_304 (fun H locs hB hS1 hz hkk => ?_)
  have hT := lt_m hX hM hx0 hm0 hdj hoL hoM hO hob ⟨L', ly', ad', hB, hm0, fun q h => Or.inl h⟩ hkk hS1
  obtain ⟨ly, L, ad, ly', L', ad', hX, hM, hx0, hm0, hdj, hoL, hoM, hO, hob, hS⟩ := hT
  have hLb := hX.2.2.1
  have hLbM := hM.2.2.1
  have hz0 : ∀ q, H.size ≤ q → bA E q := fun q z => by show E.2 0 ≤ q; rw [hE0]; exact Nat.le_trans hS.1 z
  refine lv_istore (lv' := [(6, .int (nI 0)), (5, .int (nI 1)), (4, .int (nI ii)), (0, .ref bb), (1, .ref x), (2, .ref mm), (3, .ref out)]) hx hb dL_law_307 hl (by decide) rfl (fun ls hl => ?_)
  refine lv_aload_n hx hb dL_law_309 rfl (lv_at hl 5 rfl) ?_
  have hMt := mX7_thrown l hM
  rw [hm0] at hMt
  refine ro_V (As := []) (h0 := mm) (rest := []) (v := nI 1) hx hb hml hown hC hS hAb hMt kV_L_98 ⟨rfl, rfl⟩ ⟨Nat.le_of_ble_eq_true rfl, Nat.le_of_ble_eq_true rfl⟩ (by rw [← hm0]; exact hM.1.recv hC cM_0 rfl) rfl hl (Nat.le_of_ble_eq_true rfl) ⟨show cells + 1 + 0 ≤ 609960 by omega, show slots + 6 + 0 ≤ 7266223 by omega⟩ dL_law_310 ?_
  refine lv_iload hx hb dL_law_313 (lv_at hl 1 rfl) ?_
  refine lv_icmp_eq (tgt := 320) hx hb dL_law_315 (by decide) (fun _ => ?_) (fun c9 => absurd rfl c9)
  refine lv_iload hx hb dL_law_320 (lv_at hl 1 rfl) ?_
  have hT : LT E s.heap x mm out _ _ _ _ H locs := ⟨ly, L, ad, ly', L', ad', hX, hM, hx0, hm0, hdj, hoL, hoM, hO, hob, hS⟩
  refine lv_if_ne (tgt := 337) hx hb dL_law_322 (by decide) (fun _ => ?_) (fun c9 => absurd c9 (by decide))
  refine lv_goto (tgt := 1820) hx hb dL_law_337 (by decide) ?_
  refine W.widen (k := cells + 1100) (n := slots + 14000) (by omega) (by omega) ?_
  exact kk _ _ _ _ _ _ hT (lv_sub hl [2, 3, 4, 5, 6] rfl)
set_option maxHeartbeats 4000000 in
set_option maxRecDepth 100000 in
theorem lc_hand_b2 (C0 : LC p l s m co E bb Ln xs) {c : Cy} {th : Int32} {v0 : Int64} {H : Heap} {locs : List Loc} {x mm out : Nat} (hT : LT E s.heap x mm out c c th v0 H locs) {ii : Nat} (hii : ii + 7 ≤ Ln) {cells slots : Nat} (hcs : cells + 1100 ≤ 609960 ∧ slots + 14000 ≤ 7266223) {ls : Array Slot} (hl : lv_has ls 9 [(4, .int (nI ii)), (0, .ref bb), (1, .ref x), (2, .ref mm), (3, .ref out)]) (kk : KK p l e s m below meth co bb E Q x mm out ii cells slots) (a b o v : Int32) (hq1 : xs (ii + 1) = a) (hq2 : xs (ii + 2) = b) (hq3 : xs (ii + 3) = o) (hq4 : xs (ii + 4) = v) (ha : hanOK a b o v = true) (hs : 8 ≤ c.R 10 1) : W p l e room_1 s m #[Value.ref bb] below meth co H locs cells slots Q (F0 m 248 ls []) := by
  obtain ⟨hx, hb, hml, hown, hC, hNc, hXs, hbl, hE0, hst, hLn⟩ := C0
  have hAb : ∀ q, bA E q → bA E q := fun _ h => h
  have hbb : ¬ bA E bb := by show ¬ E.2 0 ≤ bb; rw [hE0]; exact Nat.not_le.mpr hbl
  obtain ⟨ly, L, ad, ly', L', ad', hX, hM, hx0, hm0, hdj, hoL, hoM, hO, hob, hS⟩ := hT
  have hLb := hX.2.2.1
  have hLbM := hM.2.2.1
  have hz0 : ∀ q, H.size ≤ q → bA E q := fun q z => by show E.2 0 ≤ q; rw [hE0]; exact Nat.le_trans hS.1 z
  refine lv_aload_n hx hb dL_law_248 rfl (lv_at hl 2 rfl) ?_
  refine lv_aload_n hx hb dL_law_249 rfl (lv_at hl 1 rfl) ?_
  refine lv_iload hx hb dL_law_250 (lv_at hl 0 rfl) ?_
  refine lv_iconstN hx hb 1 dL_law_252 (by decide) ?_
  refine lv_iaddN hx hb dL_law_253 ?_
  refine lw_sld hx hb hXs hbl hbb hS (show ii + 1 < Ln by omega) hLn dL_law_254 ?_
  rw [hq1]
  refine lv_aload_n hx hb dL_law_255 rfl (lv_at hl 1 rfl) ?_
  refine lv_iload hx hb dL_law_256 (lv_at hl 0 rfl) ?_
  refine lv_iconstN hx hb 2 dL_law_258 (by decide) ?_
  refine lv_iaddN hx hb dL_law_259 ?_
  refine lw_sld hx hb hXs hbl hbb hS (show ii + 2 < Ln by omega) hLn dL_law_260 ?_
  rw [hq2]
  refine lv_aload_n hx hb dL_law_261 rfl (lv_at hl 1 rfl) ?_
  refine lv_iload hx hb dL_law_262 (lv_at hl 0 rfl) ?_
  refine lv_iconstN hx hb 3 dL_law_264 (by decide) ?_
  refine lv_iaddN hx hb dL_law_265 ?_
  refine lw_sld hx hb hXs hbl hbb hS (show ii + 3 < Ln by omega) hLn dL_law_266 ?_
  rw [hq3]
  refine lv_aload_n hx hb dL_law_267 rfl (lv_at hl 1 rfl) ?_
  refine lv_iload hx hb dL_law_268 (lv_at hl 0 rfl) ?_
  refine lv_iconstN hx hb 4 dL_law_270 (by decide) ?_
  refine lv_iaddN hx hb dL_law_271 ?_
  refine lw_sld hx hb hXs hbl hbb hS (show ii + 4 < Ln by omega) hLn dL_law_272 ?_
  rw [hq4]
  refine lv_aload_n hx hb dL_law_273 rfl (lv_at hl 4 rfl) ?_
  have hMt := mL_hand_b2 l hst hX hO hoL hob a b o v ha hs
  rw [hx0] at hMt
  refine lw_S (As := [.ref x, .int a, .int b, .int o, .int v, .ref out]) (rest := []) hx hb hml hown hC hNc hS hAb hMt (fun q h => h.elim (hLb q) (fun h => h.elim (fun h => by rw [h]; exact hob) (hz0 q))) kW_L_102 ⟨rfl, rfl⟩ ⟨Nat.le_of_ble_eq_true rfl, Nat.le_of_ble_eq_true rfl⟩ rfl hl (Nat.le_of_ble_eq_true rfl) ⟨show cells + 1 ≤ 609960 by omega, show slots + 6 ≤ 7266223 by omega⟩ dL_law_274 (fun H locs hB hS1 hz hkk => ?_)
  have hT := lt_x hX hM hx0 hm0 hdj hoL hoM hO hob hB hkk hS1
  obtain ⟨ly, L, ad, ly', L', ad', hX, hM, hx0, hm0, hdj, hoL, hoM, hO, hob, hS⟩ := hT
  have hLb := hX.2.2.1
  have hLbM := hM.2.2.1
  have hz0 : ∀ q, H.size ≤ q → bA E q := fun q z => by show E.2 0 ≤ q; rw [hE0]; exact Nat.le_trans hS.1 z
  refine lv_istore (lv' := [(5, .int (nI 2)), (4, .int (nI ii)), (0, .ref bb), (1, .ref x), (2, .ref mm), (3, .ref out)]) hx hb dL_law_277 hl (by decide) rfl (fun ls hl => ?_)
  refine lv_aload_n hx hb dL_law_279 rfl (lv_at hl 4 rfl) ?_
  refine lv_aload_n hx hb dL_law_280 rfl (lv_at hl 2 rfl) ?_
  refine lv_iload hx hb dL_law_281 (lv_at hl 1 rfl) ?_
  refine lv_iconstN hx hb 1 dL_law_283 (by decide) ?_
  refine lv_iaddN hx hb dL_law_284 ?_
  refine lw_sld hx hb hXs hbl hbb hS (show ii + 1 < Ln by omega) hLn dL_law_285 ?_
  rw [hq1]
  refine lv_aload_n hx hb dL_law_286 rfl (lv_at hl 2 rfl) ?_
  refine lv_iload hx hb dL_law_287 (lv_at hl 1 rfl) ?_
  refine lv_iconstN hx hb 2 dL_law_289 (by decide) ?_
  refine lv_iaddN hx hb dL_law_290 ?_
  refine lw_sld hx hb hXs hbl hbb hS (show ii + 2 < Ln by omega) hLn dL_law_291 ?_
  rw [hq2]
  refine lv_aload_n hx hb dL_law_292 rfl (lv_at hl 2 rfl) ?_
  refine lv_iload hx hb dL_law_293 (lv_at hl 1 rfl) ?_
  refine lv_iconstN hx hb 3 dL_law_295 (by decide) ?_
  refine lv_iaddN hx hb dL_law_296 ?_
  refine lw_sld hx hb hXs hbl hbb hS (show ii + 3 < Ln by omega) hLn dL_law_297 ?_
  rw [hq3]
  refine lv_aload_n hx hb dL_law_298 rfl (lv_at hl 2 rfl) ?_
  refine lv_iload hx hb dL_law_299 (lv_at hl 1 rfl) ?_
  refine lv_iconstN hx hb 4 dL_law_301 (by decide) ?_
  refine lv_iaddN hx hb dL_law_302 ?_
  refine lw_sld hx hb hXs hbl hbb hS (show ii + 4 < Ln by omega) hLn dL_law_303 ?_
  rw [hq4]
  have hMt := mX7_hand_b2 l hM a b o v ha hs
  rw [hm0] at hMt
  refine mu_V (As := [.int a, .int b, .int o, .int v]) (h0 := mm) (rest := []) (v := nI 0) hx hb hml hown hC hS hAb hMt (fun q h => h.elim (hLbM q) (hz0 q)) kV_L_104 ⟨rfl, rfl⟩ ⟨Nat.le_of_ble_eq_true rfl, Nat.le_of_ble_eq_true rfl⟩ (by rw [← hm0]; exact hM.1.recv hC cM_0 rfl) rfl hl (Nat.le_of_ble_eq_true rfl) ⟨show cells + 1 + 0 ≤ 609960 by omega, show slots + 6 + 0 ≤ 7266223 by omega⟩ dL_law_304 (fun H locs hB hS1 hz hkk => ?_)
  have hT := lt_m hX hM hx0 hm0 hdj hoL hoM hO hob ⟨L', ly', ad', hB, hm0, fun q h => Or.inl h⟩ hkk hS1
  obtain ⟨ly, L, ad, ly', L', ad', hX, hM, hx0, hm0, hdj, hoL, hoM, hO, hob, hS⟩ := hT
  have hLb := hX.2.2.1
  have hLbM := hM.2.2.1
  have hz0 : ∀ q, H.size ≤ q → bA E q := fun q z => by show E.2 0 ≤ q; rw [hE0]; exact Nat.le_trans hS.1 z
  refine lv_istore (lv' := [(6, .int (nI 0)), (5, .int (nI 2)), (4, .int (nI ii)), (0, .ref bb), (1, .ref x), (2, .ref mm), (3, .ref out)]) hx hb dL_law_307 hl (by decide) rfl (fun ls hl => ?_)
  refine lv_aload_n hx hb dL_law_309 rfl (lv_at hl 5 rfl) ?_
  have hMt := mX7_thrown l hM
  rw [hm0] at hMt
  refine ro_V (As := []) (h0 := mm) (rest := []) (v := nI 2) hx hb hml hown hC hS hAb hMt kV_L_98 ⟨rfl, rfl⟩ ⟨Nat.le_of_ble_eq_true rfl, Nat.le_of_ble_eq_true rfl⟩ (by rw [← hm0]; exact hM.1.recv hC cM_0 rfl) rfl hl (Nat.le_of_ble_eq_true rfl) ⟨show cells + 1 + 0 ≤ 609960 by omega, show slots + 6 + 0 ≤ 7266223 by omega⟩ dL_law_310 ?_
  refine lv_iload hx hb dL_law_313 (lv_at hl 1 rfl) ?_
  refine lv_icmp_eq (tgt := 320) hx hb dL_law_315 (by decide) (fun _ => ?_) (fun c9 => absurd rfl c9)
  refine lv_iload hx hb dL_law_320 (lv_at hl 1 rfl) ?_
  have hT : LT E s.heap x mm out _ _ _ _ H locs := ⟨ly, L, ad, ly', L', ad', hX, hM, hx0, hm0, hdj, hoL, hoM, hO, hob, hS⟩
  refine lv_if_ne (tgt := 337) hx hb dL_law_322 (by decide) (fun _ => ?_) (fun c9 => absurd c9 (by decide))
  refine lv_goto (tgt := 1820) hx hb dL_law_337 (by decide) ?_
  refine W.widen (k := cells + 1100) (n := slots + 14000) (by omega) (by omega) ?_
  exact kk _ _ _ _ _ _ hT (lv_sub hl [2, 3, 4, 5, 6] rfl)
set_option maxHeartbeats 4000000 in
set_option maxRecDepth 100000 in
theorem lc_hand_g (C0 : LC p l s m co E bb Ln xs) {c : Cy} {th : Int32} {v0 : Int64} {H : Heap} {locs : List Loc} {x mm out : Nat} (hT : LT E s.heap x mm out c c th v0 H locs) {ii : Nat} (hii : ii + 7 ≤ Ln) {cells slots : Nat} (hcs : cells + 1100 ≤ 609960 ∧ slots + 14000 ≤ 7266223) {ls : Array Slot} (hl : lv_has ls 9 [(4, .int (nI ii)), (0, .ref bb), (1, .ref x), (2, .ref mm), (3, .ref out)]) (kk : KK p l e s m below meth co bb E Q x mm out ii cells slots) (sp : Nat) (cr sl rd : Int32) (hq1 : xs (ii + 1) = cr) (hq2 : xs (ii + 2) = nI sp) (hq3 : xs (ii + 3) = sl) (hq4 : xs (ii + 4) = rd) (hcr : isInS cr (nI 0) (nI 3) = true) (hp : 1 ≤ sp) (hp2 : sp ≤ 9) (hl2 : isInS sl (nI 0) (nI 9) = true) (hd : isInS rd (nI 0) (nI 9) = true) (hs : c.R 10 1 < 8) (heq : c.R 10 1 = c.R 11 1) : W p l e room_1 s m #[Value.ref bb] below meth co H locs cells slots Q (F0 m 248 ls []) := by
  obtain ⟨hx, hb, hml, hown, hC, hNc, hXs, hbl, hE0, hst, hLn⟩ := C0
  have hAb : ∀ q, bA E q → bA E q := fun _ h => h
  have hbb : ¬ bA E bb := by show ¬ E.2 0 ≤ bb; rw [hE0]; exact Nat.not_le.mpr hbl
  obtain ⟨ly, L, ad, ly', L', ad', hX, hM, hx0, hm0, hdj, hoL, hoM, hO, hob, hS⟩ := hT
  have hLb := hX.2.2.1
  have hLbM := hM.2.2.1
  have hz0 : ∀ q, H.size ≤ q → bA E q := fun q z => by show E.2 0 ≤ q; rw [hE0]; exact Nat.le_trans hS.1 z
  refine lv_aload_n hx hb dL_law_248 rfl (lv_at hl 2 rfl) ?_
  refine lv_aload_n hx hb dL_law_249 rfl (lv_at hl 1 rfl) ?_
  refine lv_iload hx hb dL_law_250 (lv_at hl 0 rfl) ?_
  refine lv_iconstN hx hb 1 dL_law_252 (by decide) ?_
  refine lv_iaddN hx hb dL_law_253 ?_
  refine lw_sld hx hb hXs hbl hbb hS (show ii + 1 < Ln by omega) hLn dL_law_254 ?_
  rw [hq1]
  refine lv_aload_n hx hb dL_law_255 rfl (lv_at hl 1 rfl) ?_
  refine lv_iload hx hb dL_law_256 (lv_at hl 0 rfl) ?_
  refine lv_iconstN hx hb 2 dL_law_258 (by decide) ?_
  refine lv_iaddN hx hb dL_law_259 ?_
  refine lw_sld hx hb hXs hbl hbb hS (show ii + 2 < Ln by omega) hLn dL_law_260 ?_
  rw [hq2]
  refine lv_aload_n hx hb dL_law_261 rfl (lv_at hl 1 rfl) ?_
  refine lv_iload hx hb dL_law_262 (lv_at hl 0 rfl) ?_
  refine lv_iconstN hx hb 3 dL_law_264 (by decide) ?_
  refine lv_iaddN hx hb dL_law_265 ?_
  refine lw_sld hx hb hXs hbl hbb hS (show ii + 3 < Ln by omega) hLn dL_law_266 ?_
  rw [hq3]
  refine lv_aload_n hx hb dL_law_267 rfl (lv_at hl 1 rfl) ?_
  refine lv_iload hx hb dL_law_268 (lv_at hl 0 rfl) ?_
  refine lv_iconstN hx hb 4 dL_law_270 (by decide) ?_
  refine lv_iaddN hx hb dL_law_271 ?_
  refine lw_sld hx hb hXs hbl hbb hS (show ii + 4 < Ln by omega) hLn dL_law_272 ?_
  rw [hq4]
  refine lv_aload_n hx hb dL_law_273 rfl (lv_at hl 4 rfl) ?_
  have hMt := mL_hand_g l hX hO hoL hob sp cr sl rd hcr hp hp2 hl2 hd hs heq
  rw [hx0] at hMt
  refine lw_S (As := [.ref x, .int cr, .int (nI sp), .int sl, .int rd, .ref out]) (rest := []) hx hb hml hown hC hNc hS hAb hMt (fun q h => h.elim (hLb q) (fun h => h.elim (fun h => by rw [h]; exact hob) (hz0 q))) kW_L_102 ⟨rfl, rfl⟩ ⟨Nat.le_of_ble_eq_true rfl, Nat.le_of_ble_eq_true rfl⟩ rfl hl (Nat.le_of_ble_eq_true rfl) ⟨show cells + 3 ≤ 609960 by omega, show slots + 226 ≤ 7266223 by omega⟩ dL_law_274 (fun H locs hB hS1 hz hkk => ?_)
  have hT := lt_x hX hM hx0 hm0 hdj hoL hoM hO hob hB hkk hS1
  obtain ⟨ly, L, ad, ly', L', ad', hX, hM, hx0, hm0, hdj, hoL, hoM, hO, hob, hS⟩ := hT
  have hLb := hX.2.2.1
  have hLbM := hM.2.2.1
  have hz0 : ∀ q, H.size ≤ q → bA E q := fun q z => by show E.2 0 ≤ q; rw [hE0]; exact Nat.le_trans hS.1 z
  refine lv_istore (lv' := [(5, .int (nI 0)), (4, .int (nI ii)), (0, .ref bb), (1, .ref x), (2, .ref mm), (3, .ref out)]) hx hb dL_law_277 hl (by decide) rfl (fun ls hl => ?_)
  refine lv_aload_n hx hb dL_law_279 rfl (lv_at hl 4 rfl) ?_
  refine lv_aload_n hx hb dL_law_280 rfl (lv_at hl 2 rfl) ?_
  refine lv_iload hx hb dL_law_281 (lv_at hl 1 rfl) ?_
  refine lv_iconstN hx hb 1 dL_law_283 (by decide) ?_
  refine lv_iaddN hx hb dL_law_284 ?_
  refine lw_sld hx hb hXs hbl hbb hS (show ii + 1 < Ln by omega) hLn dL_law_285 ?_
  rw [hq1]
  refine lv_aload_n hx hb dL_law_286 rfl (lv_at hl 2 rfl) ?_
  refine lv_iload hx hb dL_law_287 (lv_at hl 1 rfl) ?_
  refine lv_iconstN hx hb 2 dL_law_289 (by decide) ?_
  refine lv_iaddN hx hb dL_law_290 ?_
  refine lw_sld hx hb hXs hbl hbb hS (show ii + 2 < Ln by omega) hLn dL_law_291 ?_
  rw [hq2]
  refine lv_aload_n hx hb dL_law_292 rfl (lv_at hl 2 rfl) ?_
  refine lv_iload hx hb dL_law_293 (lv_at hl 1 rfl) ?_
  refine lv_iconstN hx hb 3 dL_law_295 (by decide) ?_
  refine lv_iaddN hx hb dL_law_296 ?_
  refine lw_sld hx hb hXs hbl hbb hS (show ii + 3 < Ln by omega) hLn dL_law_297 ?_
  rw [hq3]
  refine lv_aload_n hx hb dL_law_298 rfl (lv_at hl 2 rfl) ?_
  refine lv_iload hx hb dL_law_299 (lv_at hl 1 rfl) ?_
  refine lv_iconstN hx hb 4 dL_law_301 (by decide) ?_
  refine lv_iaddN hx hb dL_law_302 ?_
  refine lw_sld hx hb hXs hbl hbb hS (show ii + 4 < Ln by omega) hLn dL_law_303 ?_
  rw [hq4]
  have hMt := mX7_hand_g l hM sp cr sl rd hcr hp hp2 hl2 hd hs
  rw [hm0] at hMt
  refine mu_V (As := [.int cr, .int (nI sp), .int sl, .int rd]) (h0 := mm) (rest := []) (v := nI (c.R 10 1)) hx hb hml hown hC hS hAb hMt (fun q h => h.elim (hLbM q) (hz0 q)) kV_L_104 ⟨rfl, rfl⟩ ⟨Nat.le_of_ble_eq_true rfl, Nat.le_of_ble_eq_true rfl⟩ (by rw [← hm0]; exact hM.1.recv hC cM_0 rfl) rfl hl (Nat.le_of_ble_eq_true rfl) ⟨show cells + 3 + 3 ≤ 609960 by omega, show slots + 226 + 226 ≤ 7266223 by omega⟩ dL_law_304 (fun H locs hB hS1 hz hkk => ?_)
  have hT := lt_m hX hM hx0 hm0 hdj hoL hoM hO hob hB hkk hS1
  obtain ⟨ly, L, ad, ly', L', ad', hX, hM, hx0, hm0, hdj, hoL, hoM, hO, hob, hS⟩ := hT
  have hLb := hX.2.2.1
  have hLbM := hM.2.2.1
  have hz0 : ∀ q, H.size ≤ q → bA E q := fun q z => by show E.2 0 ≤ q; rw [hE0]; exact Nat.le_trans hS.1 z
  refine lv_istore (lv' := [(6, .int (nI (c.R 10 1))), (5, .int (nI 0)), (4, .int (nI ii)), (0, .ref bb), (1, .ref x), (2, .ref mm), (3, .ref out)]) hx hb dL_law_307 hl (by decide) rfl (fun ls hl => ?_)
  refine lv_aload_n hx hb dL_law_309 rfl (lv_at hl 5 rfl) ?_
  have hMt := mX7_thrown l hM
  rw [hm0] at hMt
  refine ro_V (As := []) (h0 := mm) (rest := []) (v := nI 0) hx hb hml hown hC hS hAb hMt kV_L_98 ⟨rfl, rfl⟩ ⟨Nat.le_of_ble_eq_true rfl, Nat.le_of_ble_eq_true rfl⟩ (by rw [← hm0]; exact hM.1.recv hC cM_0 rfl) rfl hl (Nat.le_of_ble_eq_true rfl) ⟨show cells + 6 + 0 ≤ 609960 by omega, show slots + 452 + 0 ≤ 7266223 by omega⟩ dL_law_310 ?_
  refine lv_iload hx hb dL_law_313 (lv_at hl 1 rfl) ?_
  refine lv_icmp_eq (tgt := 320) hx hb dL_law_315 (by decide) (fun _ => ?_) (fun c9 => absurd rfl c9)
  refine lv_iload hx hb dL_law_320 (lv_at hl 1 rfl) ?_
  have hT : LT E s.heap x mm out _ _ _ _ H locs := ⟨ly, L, ad, ly', L', ad', hX, hM, hx0, hm0, hdj, hoL, hoM, hO, hob, hS⟩
  refine lv_if_ne (tgt := 337) hx hb dL_law_322 (by decide) (fun c9 => absurd (by decide) c9) (fun _ => ?_)
  refine lv_aload_n hx hb dL_law_325 rfl (lv_at hl 6 rfl) ?_
  refine lv_iconstN hx hb 0 dL_law_326 (by decide) ?_
  refine lw_lald hx hb hC hO dL_law_327 ?_
  refine lv_iload hx hb dL_law_328 (lv_at hl 0 rfl) ?_
  refine lv_i2l (v := (nI (c.R 10 1)).toInt64) hx hb dL_law_330 rfl ?_
  refine W.lcmp hx hb dL_law_331 ?_
  rw [lg_self]
  refine lv_if_eq (tgt := 337) hx hb dL_law_332 (by decide) (fun _ => ?_) (fun c9 => absurd rfl c9)
  refine lv_goto (tgt := 1820) hx hb dL_law_337 (by decide) ?_
  refine W.widen (k := cells + 1100) (n := slots + 14000) (by omega) (by omega) ?_
  exact kk _ _ _ _ _ _ hT (lv_sub hl [2, 3, 4, 5, 6] rfl)
set_option maxHeartbeats 4000000 in
set_option maxRecDepth 100000 in
theorem lc_permit_g (C0 : LC p l s m co E bb Ln xs) {c : Cy} {th : Int32} {v0 : Int64} {H : Heap} {locs : List Loc} {x mm out : Nat} (hT : LT E s.heap x mm out c c th v0 H locs) {ii : Nat} (hii : ii + 7 ≤ Ln) {cells slots : Nat} (hcs : cells + 1100 ≤ 609960 ∧ slots + 14000 ≤ 7266223) {ls : Array Slot} (hl : lv_has ls 9 [(4, .int (nI ii)), (0, .ref bb), (1, .ref x), (2, .ref mm), (3, .ref out)]) (kk : KK p l e s m below meth co bb E Q x mm out ii cells slots) (i : Nat) (a b : Int32) (hq1 : xs (ii + 1) = nI i) (hq2 : xs (ii + 2) = a) (hq3 : xs (ii + 3) = b) (hi : i < c.R 10 0) (ha : isInS a (nI 0) (nI 3) = true) (hb2 : isInS b (nI (c.R 0 0)) (nI 400) = true) : W p l e room_1 s m #[Value.ref bb] below meth co H locs cells slots Q (F0 m 340 ls []) := by
  obtain ⟨hx, hb, hml, hown, hC, hNc, hXs, hbl, hE0, hst, hLn⟩ := C0
  have hAb : ∀ q, bA E q → bA E q := fun _ h => h
  have hbb : ¬ bA E bb := by show ¬ E.2 0 ≤ bb; rw [hE0]; exact Nat.not_le.mpr hbl
  obtain ⟨ly, L, ad, ly', L', ad', hX, hM, hx0, hm0, hdj, hoL, hoM, hO, hob, hS⟩ := hT
  have hLb := hX.2.2.1
  have hLbM := hM.2.2.1
  have hz0 : ∀ q, H.size ≤ q → bA E q := fun q z => by show E.2 0 ≤ q; rw [hE0]; exact Nat.le_trans hS.1 z
  refine lv_aload_n hx hb dL_law_340 rfl (lv_at hl 2 rfl) ?_
  refine lv_aload_n hx hb dL_law_341 rfl (lv_at hl 1 rfl) ?_
  refine lv_iload hx hb dL_law_342 (lv_at hl 0 rfl) ?_
  refine lv_iconstN hx hb 1 dL_law_344 (by decide) ?_
  refine lv_iaddN hx hb dL_law_345 ?_
  refine lw_sld hx hb hXs hbl hbb hS (show ii + 1 < Ln by omega) hLn dL_law_346 ?_
  rw [hq1]
  refine lv_aload_n hx hb dL_law_347 rfl (lv_at hl 1 rfl) ?_
  refine lv_iload hx hb dL_law_348 (lv_at hl 0 rfl) ?_
  refine lv_iconstN hx hb 2 dL_law_350 (by decide) ?_
  refine lv_iaddN hx hb dL_law_351 ?_
  refine lw_sld hx hb hXs hbl hbb hS (show ii + 2 < Ln by omega) hLn dL_law_352 ?_
  rw [hq2]
  refine lv_aload_n hx hb dL_law_353 rfl (lv_at hl 1 rfl) ?_
  refine lv_iload hx hb dL_law_354 (lv_at hl 0 rfl) ?_
  refine lv_iconstN hx hb 3 dL_law_356 (by decide) ?_
  refine lv_iaddN hx hb dL_law_357 ?_
  refine lw_sld hx hb hXs hbl hbb hS (show ii + 3 < Ln by omega) hLn dL_law_358 ?_
  rw [hq3]
  refine lv_aload_n hx hb dL_law_359 rfl (lv_at hl 4 rfl) ?_
  have hMt := mL_permit_g l hX hO hoL hob i a b hi ha hb2
  rw [hx0] at hMt
  refine lw_S (As := [.ref x, .int (nI i), .int a, .int b, .ref out]) (rest := []) hx hb hml hown hC hNc hS hAb hMt (fun q h => h.elim (hLb q) (fun h => h.elim (fun h => by rw [h]; exact hob) (hz0 q))) kW_L_105 ⟨rfl, rfl⟩ ⟨Nat.le_of_ble_eq_true rfl, Nat.le_of_ble_eq_true rfl⟩ rfl hl (Nat.le_of_ble_eq_true rfl) ⟨show cells + 0 ≤ 609960 by omega, show slots + 0 ≤ 7266223 by omega⟩ dL_law_360 (fun H locs hB hS1 hz hkk => ?_)
  have hT := lt_x hX hM hx0 hm0 hdj hoL hoM hO hob hB hkk hS1
  obtain ⟨ly, L, ad, ly', L', ad', hX, hM, hx0, hm0, hdj, hoL, hoM, hO, hob, hS⟩ := hT
  have hLb := hX.2.2.1
  have hLbM := hM.2.2.1
  have hz0 : ∀ q, H.size ≤ q → bA E q := fun q z => by show E.2 0 ≤ q; rw [hE0]; exact Nat.le_trans hS.1 z
  refine lv_istore (lv' := [(5, .int (nI 0)), (4, .int (nI ii)), (0, .ref bb), (1, .ref x), (2, .ref mm), (3, .ref out)]) hx hb dL_law_363 hl (by decide) rfl (fun ls hl => ?_)
  refine lv_aload_n hx hb dL_law_365 rfl (lv_at hl 4 rfl) ?_
  refine lv_aload_n hx hb dL_law_366 rfl (lv_at hl 2 rfl) ?_
  refine lv_iload hx hb dL_law_367 (lv_at hl 1 rfl) ?_
  refine lv_iconstN hx hb 1 dL_law_369 (by decide) ?_
  refine lv_iaddN hx hb dL_law_370 ?_
  refine lw_sld hx hb hXs hbl hbb hS (show ii + 1 < Ln by omega) hLn dL_law_371 ?_
  rw [hq1]
  refine lv_aload_n hx hb dL_law_372 rfl (lv_at hl 2 rfl) ?_
  refine lv_iload hx hb dL_law_373 (lv_at hl 1 rfl) ?_
  refine lv_iconstN hx hb 2 dL_law_375 (by decide) ?_
  refine lv_iaddN hx hb dL_law_376 ?_
  refine lw_sld hx hb hXs hbl hbb hS (show ii + 2 < Ln by omega) hLn dL_law_377 ?_
  rw [hq2]
  refine lv_aload_n hx hb dL_law_378 rfl (lv_at hl 2 rfl) ?_
  refine lv_iload hx hb dL_law_379 (lv_at hl 1 rfl) ?_
  refine lv_iconstN hx hb 3 dL_law_381 (by decide) ?_
  refine lv_iaddN hx hb dL_law_382 ?_
  refine lw_sld hx hb hXs hbl hbb hS (show ii + 3 < Ln by omega) hLn dL_law_383 ?_
  rw [hq3]
  have hMt := mX7_permit_g l hM i a b hi ha hb2
  rw [hm0] at hMt
  refine mu_V (As := [.int (nI i), .int a, .int b]) (h0 := mm) (rest := []) (v := pcS c i (nI (c.R 0 0))) hx hb hml hown hC hS hAb hMt (fun q h => h.elim (hLbM q) (hz0 q)) kV_L_108 ⟨rfl, rfl⟩ ⟨Nat.le_of_ble_eq_true rfl, Nat.le_of_ble_eq_true rfl⟩ (by rw [← hm0]; exact hM.1.recv hC cM_0 rfl) rfl hl (Nat.le_of_ble_eq_true rfl) ⟨show cells + 0 ≤ 609960 by omega, show slots + 0 ≤ 7266223 by omega⟩ dL_law_384 (fun H locs hB hS1 hz hkk => ?_)
  have hT := lt_m hX hM hx0 hm0 hdj hoL hoM hO hob ⟨L', ly', ad', hB, hm0, fun q h => Or.inl h⟩ hkk hS1
  obtain ⟨ly, L, ad, ly', L', ad', hX, hM, hx0, hm0, hdj, hoL, hoM, hO, hob, hS⟩ := hT
  have hLb := hX.2.2.1
  have hLbM := hM.2.2.1
  have hz0 : ∀ q, H.size ≤ q → bA E q := fun q z => by show E.2 0 ≤ q; rw [hE0]; exact Nat.le_trans hS.1 z
  refine lv_istore (lv' := [(6, .int (pcS c i (nI (c.R 0 0)))), (5, .int (nI 0)), (4, .int (nI ii)), (0, .ref bb), (1, .ref x), (2, .ref mm), (3, .ref out)]) hx hb dL_law_387 hl (by decide) rfl (fun ls hl => ?_)
  refine lv_aload_n hx hb dL_law_389 rfl (lv_at hl 5 rfl) ?_
  have hMt := mX7_thrown l hM
  rw [hm0] at hMt
  refine ro_V (As := []) (h0 := mm) (rest := []) (v := nI 0) hx hb hml hown hC hS hAb hMt kV_L_98 ⟨rfl, rfl⟩ ⟨Nat.le_of_ble_eq_true rfl, Nat.le_of_ble_eq_true rfl⟩ (by rw [← hm0]; exact hM.1.recv hC cM_0 rfl) rfl hl (Nat.le_of_ble_eq_true rfl) ⟨show cells + 0 ≤ 609960 by omega, show slots + 0 ≤ 7266223 by omega⟩ dL_law_390 ?_
  refine lv_iload hx hb dL_law_393 (lv_at hl 1 rfl) ?_
  refine lv_icmp_eq (tgt := 400) hx hb dL_law_395 (by decide) (fun _ => ?_) (fun c9 => absurd rfl c9)
  refine lv_iload hx hb dL_law_400 (lv_at hl 1 rfl) ?_
  have hT : LT E s.heap x mm out _ _ _ _ H locs := ⟨ly, L, ad, ly', L', ad', hX, hM, hx0, hm0, hdj, hoL, hoM, hO, hob, hS⟩
  refine lv_if_ne (tgt := 417) hx hb dL_law_402 (by decide) (fun c9 => absurd (by decide) c9) (fun _ => ?_)
  refine lv_aload_n hx hb dL_law_405 rfl (lv_at hl 6 rfl) ?_
  refine lv_iconstN hx hb 0 dL_law_406 (by decide) ?_
  refine lw_lald hx hb hC hO dL_law_407 ?_
  refine lv_iload hx hb dL_law_408 (lv_at hl 0 rfl) ?_
  refine lv_i2l (v := (pcS c i (nI (c.R 0 0))).toInt64) hx hb dL_law_410 rfl ?_
  refine W.lcmp hx hb dL_law_411 ?_
  rw [lg_self]
  refine lv_if_eq (tgt := 417) hx hb dL_law_412 (by decide) (fun _ => ?_) (fun c9 => absurd rfl c9)
  refine lv_goto (tgt := 1820) hx hb dL_law_417 (by decide) ?_
  refine W.widen (k := cells + 1100) (n := slots + 14000) (by omega) (by omega) ?_
  exact kk _ _ _ _ _ _ hT (lv_sub hl [2, 3, 4, 5, 6] rfl)
set_option maxHeartbeats 4000000 in
set_option maxRecDepth 100000 in
theorem lc_permit_b1 (C0 : LC p l s m co E bb Ln xs) {c : Cy} {th : Int32} {v0 : Int64} {H : Heap} {locs : List Loc} {x mm out : Nat} (hT : LT E s.heap x mm out c c th v0 H locs) {ii : Nat} (hii : ii + 7 ≤ Ln) {cells slots : Nat} (hcs : cells + 1100 ≤ 609960 ∧ slots + 14000 ≤ 7266223) {ls : Array Slot} (hl : lv_has ls 9 [(4, .int (nI ii)), (0, .ref bb), (1, .ref x), (2, .ref mm), (3, .ref out)]) (kk : KK p l e s m below meth co bb E Q x mm out ii cells slots) (v a b : Int32) (hq1 : xs (ii + 1) = v) (hq2 : xs (ii + 2) = a) (hq3 : xs (ii + 3) = b) (hv : isInS v (nI 0) (nI (c.R 10 0) - nI 1) = false) : W p l e room_1 s m #[Value.ref bb] below meth co H locs cells slots Q (F0 m 340 ls []) := by
  obtain ⟨hx, hb, hml, hown, hC, hNc, hXs, hbl, hE0, hst, hLn⟩ := C0
  have hAb : ∀ q, bA E q → bA E q := fun _ h => h
  have hbb : ¬ bA E bb := by show ¬ E.2 0 ≤ bb; rw [hE0]; exact Nat.not_le.mpr hbl
  obtain ⟨ly, L, ad, ly', L', ad', hX, hM, hx0, hm0, hdj, hoL, hoM, hO, hob, hS⟩ := hT
  have hLb := hX.2.2.1
  have hLbM := hM.2.2.1
  have hz0 : ∀ q, H.size ≤ q → bA E q := fun q z => by show E.2 0 ≤ q; rw [hE0]; exact Nat.le_trans hS.1 z
  refine lv_aload_n hx hb dL_law_340 rfl (lv_at hl 2 rfl) ?_
  refine lv_aload_n hx hb dL_law_341 rfl (lv_at hl 1 rfl) ?_
  refine lv_iload hx hb dL_law_342 (lv_at hl 0 rfl) ?_
  refine lv_iconstN hx hb 1 dL_law_344 (by decide) ?_
  refine lv_iaddN hx hb dL_law_345 ?_
  refine lw_sld hx hb hXs hbl hbb hS (show ii + 1 < Ln by omega) hLn dL_law_346 ?_
  rw [hq1]
  refine lv_aload_n hx hb dL_law_347 rfl (lv_at hl 1 rfl) ?_
  refine lv_iload hx hb dL_law_348 (lv_at hl 0 rfl) ?_
  refine lv_iconstN hx hb 2 dL_law_350 (by decide) ?_
  refine lv_iaddN hx hb dL_law_351 ?_
  refine lw_sld hx hb hXs hbl hbb hS (show ii + 2 < Ln by omega) hLn dL_law_352 ?_
  rw [hq2]
  refine lv_aload_n hx hb dL_law_353 rfl (lv_at hl 1 rfl) ?_
  refine lv_iload hx hb dL_law_354 (lv_at hl 0 rfl) ?_
  refine lv_iconstN hx hb 3 dL_law_356 (by decide) ?_
  refine lv_iaddN hx hb dL_law_357 ?_
  refine lw_sld hx hb hXs hbl hbb hS (show ii + 3 < Ln by omega) hLn dL_law_358 ?_
  rw [hq3]
  refine lv_aload_n hx hb dL_law_359 rfl (lv_at hl 4 rfl) ?_
  have hMt := mL_permit_b1 l hst hX hO hoL hob v a b hv
  rw [hx0] at hMt
  refine lw_S (As := [.ref x, .int v, .int a, .int b, .ref out]) (rest := []) hx hb hml hown hC hNc hS hAb hMt (fun q h => h.elim (hLb q) (fun h => h.elim (fun h => by rw [h]; exact hob) (hz0 q))) kW_L_105 ⟨rfl, rfl⟩ ⟨Nat.le_of_ble_eq_true rfl, Nat.le_of_ble_eq_true rfl⟩ rfl hl (Nat.le_of_ble_eq_true rfl) ⟨show cells + 1 ≤ 609960 by omega, show slots + 6 ≤ 7266223 by omega⟩ dL_law_360 (fun H locs hB hS1 hz hkk => ?_)
  have hT := lt_x hX hM hx0 hm0 hdj hoL hoM hO hob hB hkk hS1
  obtain ⟨ly, L, ad, ly', L', ad', hX, hM, hx0, hm0, hdj, hoL, hoM, hO, hob, hS⟩ := hT
  have hLb := hX.2.2.1
  have hLbM := hM.2.2.1
  have hz0 : ∀ q, H.size ≤ q → bA E q := fun q z => by show E.2 0 ≤ q; rw [hE0]; exact Nat.le_trans hS.1 z
  refine lv_istore (lv' := [(5, .int (nI 1)), (4, .int (nI ii)), (0, .ref bb), (1, .ref x), (2, .ref mm), (3, .ref out)]) hx hb dL_law_363 hl (by decide) rfl (fun ls hl => ?_)
  refine lv_aload_n hx hb dL_law_365 rfl (lv_at hl 4 rfl) ?_
  refine lv_aload_n hx hb dL_law_366 rfl (lv_at hl 2 rfl) ?_
  refine lv_iload hx hb dL_law_367 (lv_at hl 1 rfl) ?_
  refine lv_iconstN hx hb 1 dL_law_369 (by decide) ?_
  refine lv_iaddN hx hb dL_law_370 ?_
  refine lw_sld hx hb hXs hbl hbb hS (show ii + 1 < Ln by omega) hLn dL_law_371 ?_
  rw [hq1]
  refine lv_aload_n hx hb dL_law_372 rfl (lv_at hl 2 rfl) ?_
  refine lv_iload hx hb dL_law_373 (lv_at hl 1 rfl) ?_
  refine lv_iconstN hx hb 2 dL_law_375 (by decide) ?_
  refine lv_iaddN hx hb dL_law_376 ?_
  refine lw_sld hx hb hXs hbl hbb hS (show ii + 2 < Ln by omega) hLn dL_law_377 ?_
  rw [hq2]
  refine lv_aload_n hx hb dL_law_378 rfl (lv_at hl 2 rfl) ?_
  refine lv_iload hx hb dL_law_379 (lv_at hl 1 rfl) ?_
  refine lv_iconstN hx hb 3 dL_law_381 (by decide) ?_
  refine lv_iaddN hx hb dL_law_382 ?_
  refine lw_sld hx hb hXs hbl hbb hS (show ii + 3 < Ln by omega) hLn dL_law_383 ?_
  rw [hq3]
  have hMt := mX7_permit_b1 l hM v a b hv
  rw [hm0] at hMt
  refine mu_V (As := [.int v, .int a, .int b]) (h0 := mm) (rest := []) (v := nI 0) hx hb hml hown hC hS hAb hMt (fun q h => h.elim (hLbM q) (hz0 q)) kV_L_108 ⟨rfl, rfl⟩ ⟨Nat.le_of_ble_eq_true rfl, Nat.le_of_ble_eq_true rfl⟩ (by rw [← hm0]; exact hM.1.recv hC cM_0 rfl) rfl hl (Nat.le_of_ble_eq_true rfl) ⟨show cells + 1 + 0 ≤ 609960 by omega, show slots + 6 + 0 ≤ 7266223 by omega⟩ dL_law_384 (fun H locs hB hS1 hz hkk => ?_)
  have hT := lt_m hX hM hx0 hm0 hdj hoL hoM hO hob ⟨L', ly', ad', hB, hm0, fun q h => Or.inl h⟩ hkk hS1
  obtain ⟨ly, L, ad, ly', L', ad', hX, hM, hx0, hm0, hdj, hoL, hoM, hO, hob, hS⟩ := hT
  have hLb := hX.2.2.1
  have hLbM := hM.2.2.1
  have hz0 : ∀ q, H.size ≤ q → bA E q := fun q z => by show E.2 0 ≤ q; rw [hE0]; exact Nat.le_trans hS.1 z
  refine lv_istore (lv' := [(6, .int (nI 0)), (5, .int (nI 1)), (4, .int (nI ii)), (0, .ref bb), (1, .ref x), (2, .ref mm), (3, .ref out)]) hx hb dL_law_387 hl (by decide) rfl (fun ls hl => ?_)
  refine lv_aload_n hx hb dL_law_389 rfl (lv_at hl 5 rfl) ?_
  have hMt := mX7_thrown l hM
  rw [hm0] at hMt
  refine ro_V (As := []) (h0 := mm) (rest := []) (v := nI 1) hx hb hml hown hC hS hAb hMt kV_L_98 ⟨rfl, rfl⟩ ⟨Nat.le_of_ble_eq_true rfl, Nat.le_of_ble_eq_true rfl⟩ (by rw [← hm0]; exact hM.1.recv hC cM_0 rfl) rfl hl (Nat.le_of_ble_eq_true rfl) ⟨show cells + 1 + 0 ≤ 609960 by omega, show slots + 6 + 0 ≤ 7266223 by omega⟩ dL_law_390 ?_
  refine lv_iload hx hb dL_law_393 (lv_at hl 1 rfl) ?_
  refine lv_icmp_eq (tgt := 400) hx hb dL_law_395 (by decide) (fun _ => ?_) (fun c9 => absurd rfl c9)
  refine lv_iload hx hb dL_law_400 (lv_at hl 1 rfl) ?_
  have hT : LT E s.heap x mm out _ _ _ _ H locs := ⟨ly, L, ad, ly', L', ad', hX, hM, hx0, hm0, hdj, hoL, hoM, hO, hob, hS⟩
  refine lv_if_ne (tgt := 417) hx hb dL_law_402 (by decide) (fun _ => ?_) (fun c9 => absurd c9 (by decide))
  refine lv_goto (tgt := 1820) hx hb dL_law_417 (by decide) ?_
  refine W.widen (k := cells + 1100) (n := slots + 14000) (by omega) (by omega) ?_
  exact kk _ _ _ _ _ _ hT (lv_sub hl [2, 3, 4, 5, 6] rfl)
set_option maxHeartbeats 4000000 in
set_option maxRecDepth 100000 in
theorem lc_permit_b2 (C0 : LC p l s m co E bb Ln xs) {c : Cy} {th : Int32} {v0 : Int64} {H : Heap} {locs : List Loc} {x mm out : Nat} (hT : LT E s.heap x mm out c c th v0 H locs) {ii : Nat} (hii : ii + 7 ≤ Ln) {cells slots : Nat} (hcs : cells + 1100 ≤ 609960 ∧ slots + 14000 ≤ 7266223) {ls : Array Slot} (hl : lv_has ls 9 [(4, .int (nI ii)), (0, .ref bb), (1, .ref x), (2, .ref mm), (3, .ref out)]) (kk : KK p l e s m below meth co bb E Q x mm out ii cells slots) (i : Nat) (a b : Int32) (hq1 : xs (ii + 1) = nI i) (hq2 : xs (ii + 2) = a) (hq3 : xs (ii + 3) = b) (hi : i < c.R 10 0) (ha : (isInS a (nI 0) (nI 3) && isInS b (nI (c.R 0 0)) (nI 400)) = false) : W p l e room_1 s m #[Value.ref bb] below meth co H locs cells slots Q (F0 m 340 ls []) := by
  obtain ⟨hx, hb, hml, hown, hC, hNc, hXs, hbl, hE0, hst, hLn⟩ := C0
  have hAb : ∀ q, bA E q → bA E q := fun _ h => h
  have hbb : ¬ bA E bb := by show ¬ E.2 0 ≤ bb; rw [hE0]; exact Nat.not_le.mpr hbl
  obtain ⟨ly, L, ad, ly', L', ad', hX, hM, hx0, hm0, hdj, hoL, hoM, hO, hob, hS⟩ := hT
  have hLb := hX.2.2.1
  have hLbM := hM.2.2.1
  have hz0 : ∀ q, H.size ≤ q → bA E q := fun q z => by show E.2 0 ≤ q; rw [hE0]; exact Nat.le_trans hS.1 z
  refine lv_aload_n hx hb dL_law_340 rfl (lv_at hl 2 rfl) ?_
  refine lv_aload_n hx hb dL_law_341 rfl (lv_at hl 1 rfl) ?_
  refine lv_iload hx hb dL_law_342 (lv_at hl 0 rfl) ?_
  refine lv_iconstN hx hb 1 dL_law_344 (by decide) ?_
  refine lv_iaddN hx hb dL_law_345 ?_
  refine lw_sld hx hb hXs hbl hbb hS (show ii + 1 < Ln by omega) hLn dL_law_346 ?_
  rw [hq1]
  refine lv_aload_n hx hb dL_law_347 rfl (lv_at hl 1 rfl) ?_
  refine lv_iload hx hb dL_law_348 (lv_at hl 0 rfl) ?_
  refine lv_iconstN hx hb 2 dL_law_350 (by decide) ?_
  refine lv_iaddN hx hb dL_law_351 ?_
  refine lw_sld hx hb hXs hbl hbb hS (show ii + 2 < Ln by omega) hLn dL_law_352 ?_
  rw [hq2]
  refine lv_aload_n hx hb dL_law_353 rfl (lv_at hl 1 rfl) ?_
  refine lv_iload hx hb dL_law_354 (lv_at hl 0 rfl) ?_
  refine lv_iconstN hx hb 3 dL_law_356 (by decide) ?_
  refine lv_iaddN hx hb dL_law_357 ?_
  refine lw_sld hx hb hXs hbl hbb hS (show ii + 3 < Ln by omega) hLn dL_law_358 ?_
  rw [hq3]
  refine lv_aload_n hx hb dL_law_359 rfl (lv_at hl 4 rfl) ?_
  have hMt := mL_permit_b2 l hst hX hO hoL hob i a b hi ha
  rw [hx0] at hMt
  refine lw_S (As := [.ref x, .int (nI i), .int a, .int b, .ref out]) (rest := []) hx hb hml hown hC hNc hS hAb hMt (fun q h => h.elim (hLb q) (fun h => h.elim (fun h => by rw [h]; exact hob) (hz0 q))) kW_L_105 ⟨rfl, rfl⟩ ⟨Nat.le_of_ble_eq_true rfl, Nat.le_of_ble_eq_true rfl⟩ rfl hl (Nat.le_of_ble_eq_true rfl) ⟨show cells + 1 ≤ 609960 by omega, show slots + 6 ≤ 7266223 by omega⟩ dL_law_360 (fun H locs hB hS1 hz hkk => ?_)
  have hT := lt_x hX hM hx0 hm0 hdj hoL hoM hO hob hB hkk hS1
  obtain ⟨ly, L, ad, ly', L', ad', hX, hM, hx0, hm0, hdj, hoL, hoM, hO, hob, hS⟩ := hT
  have hLb := hX.2.2.1
  have hLbM := hM.2.2.1
  have hz0 : ∀ q, H.size ≤ q → bA E q := fun q z => by show E.2 0 ≤ q; rw [hE0]; exact Nat.le_trans hS.1 z
  refine lv_istore (lv' := [(5, .int (nI 2)), (4, .int (nI ii)), (0, .ref bb), (1, .ref x), (2, .ref mm), (3, .ref out)]) hx hb dL_law_363 hl (by decide) rfl (fun ls hl => ?_)
  refine lv_aload_n hx hb dL_law_365 rfl (lv_at hl 4 rfl) ?_
  refine lv_aload_n hx hb dL_law_366 rfl (lv_at hl 2 rfl) ?_
  refine lv_iload hx hb dL_law_367 (lv_at hl 1 rfl) ?_
  refine lv_iconstN hx hb 1 dL_law_369 (by decide) ?_
  refine lv_iaddN hx hb dL_law_370 ?_
  refine lw_sld hx hb hXs hbl hbb hS (show ii + 1 < Ln by omega) hLn dL_law_371 ?_
  rw [hq1]
  refine lv_aload_n hx hb dL_law_372 rfl (lv_at hl 2 rfl) ?_
  refine lv_iload hx hb dL_law_373 (lv_at hl 1 rfl) ?_
  refine lv_iconstN hx hb 2 dL_law_375 (by decide) ?_
  refine lv_iaddN hx hb dL_law_376 ?_
  refine lw_sld hx hb hXs hbl hbb hS (show ii + 2 < Ln by omega) hLn dL_law_377 ?_
  rw [hq2]
  refine lv_aload_n hx hb dL_law_378 rfl (lv_at hl 2 rfl) ?_
  refine lv_iload hx hb dL_law_379 (lv_at hl 1 rfl) ?_
  refine lv_iconstN hx hb 3 dL_law_381 (by decide) ?_
  refine lv_iaddN hx hb dL_law_382 ?_
  refine lw_sld hx hb hXs hbl hbb hS (show ii + 3 < Ln by omega) hLn dL_law_383 ?_
  rw [hq3]
  have hMt := mX7_permit_b2 l hM i a b hi ha
  rw [hm0] at hMt
  refine mu_V (As := [.int (nI i), .int a, .int b]) (h0 := mm) (rest := []) (v := nI 0) hx hb hml hown hC hS hAb hMt (fun q h => h.elim (hLbM q) (hz0 q)) kV_L_108 ⟨rfl, rfl⟩ ⟨Nat.le_of_ble_eq_true rfl, Nat.le_of_ble_eq_true rfl⟩ (by rw [← hm0]; exact hM.1.recv hC cM_0 rfl) rfl hl (Nat.le_of_ble_eq_true rfl) ⟨show cells + 1 + 0 ≤ 609960 by omega, show slots + 6 + 0 ≤ 7266223 by omega⟩ dL_law_384 (fun H locs hB hS1 hz hkk => ?_)
  have hT := lt_m hX hM hx0 hm0 hdj hoL hoM hO hob ⟨L', ly', ad', hB, hm0, fun q h => Or.inl h⟩ hkk hS1
  obtain ⟨ly, L, ad, ly', L', ad', hX, hM, hx0, hm0, hdj, hoL, hoM, hO, hob, hS⟩ := hT
  have hLb := hX.2.2.1
  have hLbM := hM.2.2.1
  have hz0 : ∀ q, H.size ≤ q → bA E q := fun q z => by show E.2 0 ≤ q; rw [hE0]; exact Nat.le_trans hS.1 z
  refine lv_istore (lv' := [(6, .int (nI 0)), (5, .int (nI 2)), (4, .int (nI ii)), (0, .ref bb), (1, .ref x), (2, .ref mm), (3, .ref out)]) hx hb dL_law_387 hl (by decide) rfl (fun ls hl => ?_)
  refine lv_aload_n hx hb dL_law_389 rfl (lv_at hl 5 rfl) ?_
  have hMt := mX7_thrown l hM
  rw [hm0] at hMt
  refine ro_V (As := []) (h0 := mm) (rest := []) (v := nI 2) hx hb hml hown hC hS hAb hMt kV_L_98 ⟨rfl, rfl⟩ ⟨Nat.le_of_ble_eq_true rfl, Nat.le_of_ble_eq_true rfl⟩ (by rw [← hm0]; exact hM.1.recv hC cM_0 rfl) rfl hl (Nat.le_of_ble_eq_true rfl) ⟨show cells + 1 + 0 ≤ 609960 by omega, show slots + 6 + 0 ≤ 7266223 by omega⟩ dL_law_390 ?_
  refine lv_iload hx hb dL_law_393 (lv_at hl 1 rfl) ?_
  refine lv_icmp_eq (tgt := 400) hx hb dL_law_395 (by decide) (fun _ => ?_) (fun c9 => absurd rfl c9)
  refine lv_iload hx hb dL_law_400 (lv_at hl 1 rfl) ?_
  have hT : LT E s.heap x mm out _ _ _ _ H locs := ⟨ly, L, ad, ly', L', ad', hX, hM, hx0, hm0, hdj, hoL, hoM, hO, hob, hS⟩
  refine lv_if_ne (tgt := 417) hx hb dL_law_402 (by decide) (fun _ => ?_) (fun c9 => absurd c9 (by decide))
  refine lv_goto (tgt := 1820) hx hb dL_law_417 (by decide) ?_
  refine W.widen (k := cells + 1100) (n := slots + 14000) (by omega) (by omega) ?_
  exact kk _ _ _ _ _ _ hT (lv_sub hl [2, 3, 4, 5, 6] rfl)
set_option maxHeartbeats 4000000 in
set_option maxRecDepth 100000 in
theorem lc_watch_g (C0 : LC p l s m co E bb Ln xs) {c : Cy} {th : Int32} {v0 : Int64} {H : Heap} {locs : List Loc} {x mm out : Nat} (hT : LT E s.heap x mm out c c th v0 H locs) {ii : Nat} (hii : ii + 7 ≤ Ln) {cells slots : Nat} (hcs : cells + 1100 ≤ 609960 ∧ slots + 14000 ≤ 7266223) {ls : Array Slot} (hl : lv_has ls 9 [(4, .int (nI ii)), (0, .ref bb), (1, .ref x), (2, .ref mm), (3, .ref out)]) (kk : KK p l e s m below meth co bb E Q x mm out ii cells slots) (i a b : Nat) (hq1 : xs (ii + 1) = nI i) (hq2 : xs (ii + 2) = nI a) (hq3 : xs (ii + 3) = nI b) (hi : i < c.R 10 0) (ha : isInS (nI a) (nI 0) (nI 359) = true) (hb2 : isInS (nI b) (nI a) (nI 359) = true) (ha3 : a < 360) (hb3 : b < 360) : W p l e room_1 s m #[Value.ref bb] below meth co H locs cells slots Q (F0 m 420 ls []) := by
  obtain ⟨hx, hb, hml, hown, hC, hNc, hXs, hbl, hE0, hst, hLn⟩ := C0
  have hAb : ∀ q, bA E q → bA E q := fun _ h => h
  have hbb : ¬ bA E bb := by show ¬ E.2 0 ≤ bb; rw [hE0]; exact Nat.not_le.mpr hbl
  obtain ⟨ly, L, ad, ly', L', ad', hX, hM, hx0, hm0, hdj, hoL, hoM, hO, hob, hS⟩ := hT
  have hLb := hX.2.2.1
  have hLbM := hM.2.2.1
  have hz0 : ∀ q, H.size ≤ q → bA E q := fun q z => by show E.2 0 ≤ q; rw [hE0]; exact Nat.le_trans hS.1 z
  refine lv_aload_n hx hb dL_law_420 rfl (lv_at hl 2 rfl) ?_
  refine lv_aload_n hx hb dL_law_421 rfl (lv_at hl 1 rfl) ?_
  refine lv_iload hx hb dL_law_422 (lv_at hl 0 rfl) ?_
  refine lv_iconstN hx hb 1 dL_law_424 (by decide) ?_
  refine lv_iaddN hx hb dL_law_425 ?_
  refine lw_sld hx hb hXs hbl hbb hS (show ii + 1 < Ln by omega) hLn dL_law_426 ?_
  rw [hq1]
  refine lv_aload_n hx hb dL_law_427 rfl (lv_at hl 1 rfl) ?_
  refine lv_iload hx hb dL_law_428 (lv_at hl 0 rfl) ?_
  refine lv_iconstN hx hb 2 dL_law_430 (by decide) ?_
  refine lv_iaddN hx hb dL_law_431 ?_
  refine lw_sld hx hb hXs hbl hbb hS (show ii + 2 < Ln by omega) hLn dL_law_432 ?_
  rw [hq2]
  refine lv_aload_n hx hb dL_law_433 rfl (lv_at hl 1 rfl) ?_
  refine lv_iload hx hb dL_law_434 (lv_at hl 0 rfl) ?_
  refine lv_iconstN hx hb 3 dL_law_436 (by decide) ?_
  refine lv_iaddN hx hb dL_law_437 ?_
  refine lw_sld hx hb hXs hbl hbb hS (show ii + 3 < Ln by omega) hLn dL_law_438 ?_
  rw [hq3]
  refine lv_aload_n hx hb dL_law_439 rfl (lv_at hl 4 rfl) ?_
  have hMt := mL_watch_g l hX hO hoL hob i a b hi ha hb2 ha3
  rw [hx0] at hMt
  refine lw_S (As := [.ref x, .int (nI i), .int (nI a), .int (nI b), .ref out]) (rest := []) hx hb hml hown hC hNc hS hAb hMt (fun q h => h.elim (hLb q) (fun h => h.elim (fun h => by rw [h]; exact hob) (hz0 q))) kW_L_109 ⟨rfl, rfl⟩ ⟨Nat.le_of_ble_eq_true rfl, Nat.le_of_ble_eq_true rfl⟩ rfl hl (Nat.le_of_ble_eq_true rfl) ⟨show cells + 0 ≤ 609960 by omega, show slots + 0 ≤ 7266223 by omega⟩ dL_law_440 (fun H locs hB hS1 hz hkk => ?_)
  have hT := lt_x hX hM hx0 hm0 hdj hoL hoM hO hob hB hkk hS1
  obtain ⟨ly, L, ad, ly', L', ad', hX, hM, hx0, hm0, hdj, hoL, hoM, hO, hob, hS⟩ := hT
  have hLb := hX.2.2.1
  have hLbM := hM.2.2.1
  have hz0 : ∀ q, H.size ≤ q → bA E q := fun q z => by show E.2 0 ≤ q; rw [hE0]; exact Nat.le_trans hS.1 z
  refine lv_istore (lv' := [(5, .int (nI 0)), (4, .int (nI ii)), (0, .ref bb), (1, .ref x), (2, .ref mm), (3, .ref out)]) hx hb dL_law_443 hl (by decide) rfl (fun ls hl => ?_)
  refine lv_aload_n hx hb dL_law_445 rfl (lv_at hl 4 rfl) ?_
  refine lv_aload_n hx hb dL_law_446 rfl (lv_at hl 2 rfl) ?_
  refine lv_iload hx hb dL_law_447 (lv_at hl 1 rfl) ?_
  refine lv_iconstN hx hb 1 dL_law_449 (by decide) ?_
  refine lv_iaddN hx hb dL_law_450 ?_
  refine lw_sld hx hb hXs hbl hbb hS (show ii + 1 < Ln by omega) hLn dL_law_451 ?_
  rw [hq1]
  refine lv_aload_n hx hb dL_law_452 rfl (lv_at hl 2 rfl) ?_
  refine lv_iload hx hb dL_law_453 (lv_at hl 1 rfl) ?_
  refine lv_iconstN hx hb 2 dL_law_455 (by decide) ?_
  refine lv_iaddN hx hb dL_law_456 ?_
  refine lw_sld hx hb hXs hbl hbb hS (show ii + 2 < Ln by omega) hLn dL_law_457 ?_
  rw [hq2]
  refine lv_aload_n hx hb dL_law_458 rfl (lv_at hl 2 rfl) ?_
  refine lv_iload hx hb dL_law_459 (lv_at hl 1 rfl) ?_
  refine lv_iconstN hx hb 3 dL_law_461 (by decide) ?_
  refine lv_iaddN hx hb dL_law_462 ?_
  refine lw_sld hx hb hXs hbl hbb hS (show ii + 3 < Ln by omega) hLn dL_law_463 ?_
  rw [hq3]
  have hMt := mX7_watch_g l hM i a b hi ha hb2 ha3 hb3
  rw [hm0] at hMt
  refine mu_V (As := [.int (nI i), .int (nI a), .int (nI b)]) (h0 := mm) (rest := []) (v := nI b - nI a + nI 1) hx hb hml hown hC hS hAb hMt (fun q h => h.elim (hLbM q) (hz0 q)) kV_L_111 ⟨rfl, rfl⟩ ⟨Nat.le_of_ble_eq_true rfl, Nat.le_of_ble_eq_true rfl⟩ (by rw [← hm0]; exact hM.1.recv hC cM_0 rfl) rfl hl (Nat.le_of_ble_eq_true rfl) ⟨show cells + 0 ≤ 609960 by omega, show slots + 0 ≤ 7266223 by omega⟩ dL_law_464 (fun H locs hB hS1 hz hkk => ?_)
  have hT := lt_m hX hM hx0 hm0 hdj hoL hoM hO hob ⟨L', ly', ad', hB, hm0, fun q h => Or.inl h⟩ hkk hS1
  obtain ⟨ly, L, ad, ly', L', ad', hX, hM, hx0, hm0, hdj, hoL, hoM, hO, hob, hS⟩ := hT
  have hLb := hX.2.2.1
  have hLbM := hM.2.2.1
  have hz0 : ∀ q, H.size ≤ q → bA E q := fun q z => by show E.2 0 ≤ q; rw [hE0]; exact Nat.le_trans hS.1 z
  refine lv_istore (lv' := [(6, .int (nI b - nI a + nI 1)), (5, .int (nI 0)), (4, .int (nI ii)), (0, .ref bb), (1, .ref x), (2, .ref mm), (3, .ref out)]) hx hb dL_law_467 hl (by decide) rfl (fun ls hl => ?_)
  refine lv_aload_n hx hb dL_law_469 rfl (lv_at hl 5 rfl) ?_
  have hMt := mX7_thrown l hM
  rw [hm0] at hMt
  refine ro_V (As := []) (h0 := mm) (rest := []) (v := nI 0) hx hb hml hown hC hS hAb hMt kV_L_98 ⟨rfl, rfl⟩ ⟨Nat.le_of_ble_eq_true rfl, Nat.le_of_ble_eq_true rfl⟩ (by rw [← hm0]; exact hM.1.recv hC cM_0 rfl) rfl hl (Nat.le_of_ble_eq_true rfl) ⟨show cells + 0 ≤ 609960 by omega, show slots + 0 ≤ 7266223 by omega⟩ dL_law_470 ?_
  refine lv_iload hx hb dL_law_473 (lv_at hl 1 rfl) ?_
  refine lv_icmp_eq (tgt := 480) hx hb dL_law_475 (by decide) (fun _ => ?_) (fun c9 => absurd rfl c9)
  refine lv_iload hx hb dL_law_480 (lv_at hl 1 rfl) ?_
  have hT : LT E s.heap x mm out _ _ _ _ H locs := ⟨ly, L, ad, ly', L', ad', hX, hM, hx0, hm0, hdj, hoL, hoM, hO, hob, hS⟩
  refine lv_if_ne (tgt := 497) hx hb dL_law_482 (by decide) (fun c9 => absurd (by decide) c9) (fun _ => ?_)
  refine lv_aload_n hx hb dL_law_485 rfl (lv_at hl 6 rfl) ?_
  refine lv_iconstN hx hb 0 dL_law_486 (by decide) ?_
  refine lw_lald hx hb hC hO dL_law_487 ?_
  refine lv_iload hx hb dL_law_488 (lv_at hl 0 rfl) ?_
  refine lv_i2l (v := (nI b - nI a + nI 1).toInt64) hx hb dL_law_490 rfl ?_
  refine W.lcmp hx hb dL_law_491 ?_
  rw [lg_self]
  refine lv_if_eq (tgt := 497) hx hb dL_law_492 (by decide) (fun _ => ?_) (fun c9 => absurd rfl c9)
  refine lv_goto (tgt := 1820) hx hb dL_law_497 (by decide) ?_
  refine W.widen (k := cells + 1100) (n := slots + 14000) (by omega) (by omega) ?_
  exact kk _ _ _ _ _ _ hT (lv_sub hl [2, 3, 4, 5, 6] rfl)
set_option maxHeartbeats 4000000 in
set_option maxRecDepth 100000 in
theorem lc_watch_b1 (C0 : LC p l s m co E bb Ln xs) {c : Cy} {th : Int32} {v0 : Int64} {H : Heap} {locs : List Loc} {x mm out : Nat} (hT : LT E s.heap x mm out c c th v0 H locs) {ii : Nat} (hii : ii + 7 ≤ Ln) {cells slots : Nat} (hcs : cells + 1100 ≤ 609960 ∧ slots + 14000 ≤ 7266223) {ls : Array Slot} (hl : lv_has ls 9 [(4, .int (nI ii)), (0, .ref bb), (1, .ref x), (2, .ref mm), (3, .ref out)]) (kk : KK p l e s m below meth co bb E Q x mm out ii cells slots) (v a b : Int32) (hq1 : xs (ii + 1) = v) (hq2 : xs (ii + 2) = a) (hq3 : xs (ii + 3) = b) (hv : isInS v (nI 0) (nI (c.R 10 0) - nI 1) = false) : W p l e room_1 s m #[Value.ref bb] below meth co H locs cells slots Q (F0 m 420 ls []) := by
  obtain ⟨hx, hb, hml, hown, hC, hNc, hXs, hbl, hE0, hst, hLn⟩ := C0
  have hAb : ∀ q, bA E q → bA E q := fun _ h => h
  have hbb : ¬ bA E bb := by show ¬ E.2 0 ≤ bb; rw [hE0]; exact Nat.not_le.mpr hbl
  obtain ⟨ly, L, ad, ly', L', ad', hX, hM, hx0, hm0, hdj, hoL, hoM, hO, hob, hS⟩ := hT
  have hLb := hX.2.2.1
  have hLbM := hM.2.2.1
  have hz0 : ∀ q, H.size ≤ q → bA E q := fun q z => by show E.2 0 ≤ q; rw [hE0]; exact Nat.le_trans hS.1 z
  refine lv_aload_n hx hb dL_law_420 rfl (lv_at hl 2 rfl) ?_
  refine lv_aload_n hx hb dL_law_421 rfl (lv_at hl 1 rfl) ?_
  refine lv_iload hx hb dL_law_422 (lv_at hl 0 rfl) ?_
  refine lv_iconstN hx hb 1 dL_law_424 (by decide) ?_
  refine lv_iaddN hx hb dL_law_425 ?_
  refine lw_sld hx hb hXs hbl hbb hS (show ii + 1 < Ln by omega) hLn dL_law_426 ?_
  rw [hq1]
  refine lv_aload_n hx hb dL_law_427 rfl (lv_at hl 1 rfl) ?_
  refine lv_iload hx hb dL_law_428 (lv_at hl 0 rfl) ?_
  refine lv_iconstN hx hb 2 dL_law_430 (by decide) ?_
  refine lv_iaddN hx hb dL_law_431 ?_
  refine lw_sld hx hb hXs hbl hbb hS (show ii + 2 < Ln by omega) hLn dL_law_432 ?_
  rw [hq2]
  refine lv_aload_n hx hb dL_law_433 rfl (lv_at hl 1 rfl) ?_
  refine lv_iload hx hb dL_law_434 (lv_at hl 0 rfl) ?_
  refine lv_iconstN hx hb 3 dL_law_436 (by decide) ?_
  refine lv_iaddN hx hb dL_law_437 ?_
  refine lw_sld hx hb hXs hbl hbb hS (show ii + 3 < Ln by omega) hLn dL_law_438 ?_
  rw [hq3]
  refine lv_aload_n hx hb dL_law_439 rfl (lv_at hl 4 rfl) ?_
  have hMt := mL_watch_b1 l hst hX hO hoL hob v a b hv
  rw [hx0] at hMt
  refine lw_S (As := [.ref x, .int v, .int a, .int b, .ref out]) (rest := []) hx hb hml hown hC hNc hS hAb hMt (fun q h => h.elim (hLb q) (fun h => h.elim (fun h => by rw [h]; exact hob) (hz0 q))) kW_L_109 ⟨rfl, rfl⟩ ⟨Nat.le_of_ble_eq_true rfl, Nat.le_of_ble_eq_true rfl⟩ rfl hl (Nat.le_of_ble_eq_true rfl) ⟨show cells + 1 ≤ 609960 by omega, show slots + 6 ≤ 7266223 by omega⟩ dL_law_440 (fun H locs hB hS1 hz hkk => ?_)
  have hT := lt_x hX hM hx0 hm0 hdj hoL hoM hO hob hB hkk hS1
  obtain ⟨ly, L, ad, ly', L', ad', hX, hM, hx0, hm0, hdj, hoL, hoM, hO, hob, hS⟩ := hT
  have hLb := hX.2.2.1
  have hLbM := hM.2.2.1
  have hz0 : ∀ q, H.size ≤ q → bA E q := fun q z => by show E.2 0 ≤ q; rw [hE0]; exact Nat.le_trans hS.1 z
  refine lv_istore (lv' := [(5, .int (nI 1)), (4, .int (nI ii)), (0, .ref bb), (1, .ref x), (2, .ref mm), (3, .ref out)]) hx hb dL_law_443 hl (by decide) rfl (fun ls hl => ?_)
  refine lv_aload_n hx hb dL_law_445 rfl (lv_at hl 4 rfl) ?_
  refine lv_aload_n hx hb dL_law_446 rfl (lv_at hl 2 rfl) ?_
  refine lv_iload hx hb dL_law_447 (lv_at hl 1 rfl) ?_
  refine lv_iconstN hx hb 1 dL_law_449 (by decide) ?_
  refine lv_iaddN hx hb dL_law_450 ?_
  refine lw_sld hx hb hXs hbl hbb hS (show ii + 1 < Ln by omega) hLn dL_law_451 ?_
  rw [hq1]
  refine lv_aload_n hx hb dL_law_452 rfl (lv_at hl 2 rfl) ?_
  refine lv_iload hx hb dL_law_453 (lv_at hl 1 rfl) ?_
  refine lv_iconstN hx hb 2 dL_law_455 (by decide) ?_
  refine lv_iaddN hx hb dL_law_456 ?_
  refine lw_sld hx hb hXs hbl hbb hS (show ii + 2 < Ln by omega) hLn dL_law_457 ?_
  rw [hq2]
  refine lv_aload_n hx hb dL_law_458 rfl (lv_at hl 2 rfl) ?_
  refine lv_iload hx hb dL_law_459 (lv_at hl 1 rfl) ?_
  refine lv_iconstN hx hb 3 dL_law_461 (by decide) ?_
  refine lv_iaddN hx hb dL_law_462 ?_
  refine lw_sld hx hb hXs hbl hbb hS (show ii + 3 < Ln by omega) hLn dL_law_463 ?_
  rw [hq3]
  have hMt := mX7_watch_b1 l hM v a b hv
  rw [hm0] at hMt
  refine mu_V (As := [.int v, .int a, .int b]) (h0 := mm) (rest := []) (v := nI 0) hx hb hml hown hC hS hAb hMt (fun q h => h.elim (hLbM q) (hz0 q)) kV_L_111 ⟨rfl, rfl⟩ ⟨Nat.le_of_ble_eq_true rfl, Nat.le_of_ble_eq_true rfl⟩ (by rw [← hm0]; exact hM.1.recv hC cM_0 rfl) rfl hl (Nat.le_of_ble_eq_true rfl) ⟨show cells + 1 + 0 ≤ 609960 by omega, show slots + 6 + 0 ≤ 7266223 by omega⟩ dL_law_464 (fun H locs hB hS1 hz hkk => ?_)
  have hT := lt_m hX hM hx0 hm0 hdj hoL hoM hO hob ⟨L', ly', ad', hB, hm0, fun q h => Or.inl h⟩ hkk hS1
  obtain ⟨ly, L, ad, ly', L', ad', hX, hM, hx0, hm0, hdj, hoL, hoM, hO, hob, hS⟩ := hT
  have hLb := hX.2.2.1
  have hLbM := hM.2.2.1
  have hz0 : ∀ q, H.size ≤ q → bA E q := fun q z => by show E.2 0 ≤ q; rw [hE0]; exact Nat.le_trans hS.1 z
  refine lv_istore (lv' := [(6, .int (nI 0)), (5, .int (nI 1)), (4, .int (nI ii)), (0, .ref bb), (1, .ref x), (2, .ref mm), (3, .ref out)]) hx hb dL_law_467 hl (by decide) rfl (fun ls hl => ?_)
  refine lv_aload_n hx hb dL_law_469 rfl (lv_at hl 5 rfl) ?_
  have hMt := mX7_thrown l hM
  rw [hm0] at hMt
  refine ro_V (As := []) (h0 := mm) (rest := []) (v := nI 1) hx hb hml hown hC hS hAb hMt kV_L_98 ⟨rfl, rfl⟩ ⟨Nat.le_of_ble_eq_true rfl, Nat.le_of_ble_eq_true rfl⟩ (by rw [← hm0]; exact hM.1.recv hC cM_0 rfl) rfl hl (Nat.le_of_ble_eq_true rfl) ⟨show cells + 1 + 0 ≤ 609960 by omega, show slots + 6 + 0 ≤ 7266223 by omega⟩ dL_law_470 ?_
  refine lv_iload hx hb dL_law_473 (lv_at hl 1 rfl) ?_
  refine lv_icmp_eq (tgt := 480) hx hb dL_law_475 (by decide) (fun _ => ?_) (fun c9 => absurd rfl c9)
  refine lv_iload hx hb dL_law_480 (lv_at hl 1 rfl) ?_
  have hT : LT E s.heap x mm out _ _ _ _ H locs := ⟨ly, L, ad, ly', L', ad', hX, hM, hx0, hm0, hdj, hoL, hoM, hO, hob, hS⟩
  refine lv_if_ne (tgt := 497) hx hb dL_law_482 (by decide) (fun _ => ?_) (fun c9 => absurd c9 (by decide))
  refine lv_goto (tgt := 1820) hx hb dL_law_497 (by decide) ?_
  refine W.widen (k := cells + 1100) (n := slots + 14000) (by omega) (by omega) ?_
  exact kk _ _ _ _ _ _ hT (lv_sub hl [2, 3, 4, 5, 6] rfl)
set_option maxHeartbeats 4000000 in
set_option maxRecDepth 100000 in
theorem lc_watch_b2 (C0 : LC p l s m co E bb Ln xs) {c : Cy} {th : Int32} {v0 : Int64} {H : Heap} {locs : List Loc} {x mm out : Nat} (hT : LT E s.heap x mm out c c th v0 H locs) {ii : Nat} (hii : ii + 7 ≤ Ln) {cells slots : Nat} (hcs : cells + 1100 ≤ 609960 ∧ slots + 14000 ≤ 7266223) {ls : Array Slot} (hl : lv_has ls 9 [(4, .int (nI ii)), (0, .ref bb), (1, .ref x), (2, .ref mm), (3, .ref out)]) (kk : KK p l e s m below meth co bb E Q x mm out ii cells slots) (i : Nat) (a b : Int32) (hq1 : xs (ii + 1) = nI i) (hq2 : xs (ii + 2) = a) (hq3 : xs (ii + 3) = b) (hi : i < c.R 10 0) (ha : (isInS a (nI 0) (nI 359) && isInS b a (nI 359)) = false) : W p l e room_1 s m #[Value.ref bb] below meth co H locs cells slots Q (F0 m 420 ls []) := by
  obtain ⟨hx, hb, hml, hown, hC, hNc, hXs, hbl, hE0, hst, hLn⟩ := C0
  have hAb : ∀ q, bA E q → bA E q := fun _ h => h
  have hbb : ¬ bA E bb := by show ¬ E.2 0 ≤ bb; rw [hE0]; exact Nat.not_le.mpr hbl
  obtain ⟨ly, L, ad, ly', L', ad', hX, hM, hx0, hm0, hdj, hoL, hoM, hO, hob, hS⟩ := hT
  have hLb := hX.2.2.1
  have hLbM := hM.2.2.1
  have hz0 : ∀ q, H.size ≤ q → bA E q := fun q z => by show E.2 0 ≤ q; rw [hE0]; exact Nat.le_trans hS.1 z
  refine lv_aload_n hx hb dL_law_420 rfl (lv_at hl 2 rfl) ?_
  refine lv_aload_n hx hb dL_law_421 rfl (lv_at hl 1 rfl) ?_
  refine lv_iload hx hb dL_law_422 (lv_at hl 0 rfl) ?_
  refine lv_iconstN hx hb 1 dL_law_424 (by decide) ?_
  refine lv_iaddN hx hb dL_law_425 ?_
  refine lw_sld hx hb hXs hbl hbb hS (show ii + 1 < Ln by omega) hLn dL_law_426 ?_
  rw [hq1]
  refine lv_aload_n hx hb dL_law_427 rfl (lv_at hl 1 rfl) ?_
  refine lv_iload hx hb dL_law_428 (lv_at hl 0 rfl) ?_
  refine lv_iconstN hx hb 2 dL_law_430 (by decide) ?_
  refine lv_iaddN hx hb dL_law_431 ?_
  refine lw_sld hx hb hXs hbl hbb hS (show ii + 2 < Ln by omega) hLn dL_law_432 ?_
  rw [hq2]
  refine lv_aload_n hx hb dL_law_433 rfl (lv_at hl 1 rfl) ?_
  refine lv_iload hx hb dL_law_434 (lv_at hl 0 rfl) ?_
  refine lv_iconstN hx hb 3 dL_law_436 (by decide) ?_
  refine lv_iaddN hx hb dL_law_437 ?_
  refine lw_sld hx hb hXs hbl hbb hS (show ii + 3 < Ln by omega) hLn dL_law_438 ?_
  rw [hq3]
  refine lv_aload_n hx hb dL_law_439 rfl (lv_at hl 4 rfl) ?_
  have hMt := mL_watch_b2 l hst hX hO hoL hob i a b hi ha
  rw [hx0] at hMt
  refine lw_S (As := [.ref x, .int (nI i), .int a, .int b, .ref out]) (rest := []) hx hb hml hown hC hNc hS hAb hMt (fun q h => h.elim (hLb q) (fun h => h.elim (fun h => by rw [h]; exact hob) (hz0 q))) kW_L_109 ⟨rfl, rfl⟩ ⟨Nat.le_of_ble_eq_true rfl, Nat.le_of_ble_eq_true rfl⟩ rfl hl (Nat.le_of_ble_eq_true rfl) ⟨show cells + 1 ≤ 609960 by omega, show slots + 6 ≤ 7266223 by omega⟩ dL_law_440 (fun H locs hB hS1 hz hkk => ?_)
  have hT := lt_x hX hM hx0 hm0 hdj hoL hoM hO hob hB hkk hS1
  obtain ⟨ly, L, ad, ly', L', ad', hX, hM, hx0, hm0, hdj, hoL, hoM, hO, hob, hS⟩ := hT
  have hLb := hX.2.2.1
  have hLbM := hM.2.2.1
  have hz0 : ∀ q, H.size ≤ q → bA E q := fun q z => by show E.2 0 ≤ q; rw [hE0]; exact Nat.le_trans hS.1 z
  refine lv_istore (lv' := [(5, .int (nI 2)), (4, .int (nI ii)), (0, .ref bb), (1, .ref x), (2, .ref mm), (3, .ref out)]) hx hb dL_law_443 hl (by decide) rfl (fun ls hl => ?_)
  refine lv_aload_n hx hb dL_law_445 rfl (lv_at hl 4 rfl) ?_
  refine lv_aload_n hx hb dL_law_446 rfl (lv_at hl 2 rfl) ?_
  refine lv_iload hx hb dL_law_447 (lv_at hl 1 rfl) ?_
  refine lv_iconstN hx hb 1 dL_law_449 (by decide) ?_
  refine lv_iaddN hx hb dL_law_450 ?_
  refine lw_sld hx hb hXs hbl hbb hS (show ii + 1 < Ln by omega) hLn dL_law_451 ?_
  rw [hq1]
  refine lv_aload_n hx hb dL_law_452 rfl (lv_at hl 2 rfl) ?_
  refine lv_iload hx hb dL_law_453 (lv_at hl 1 rfl) ?_
  refine lv_iconstN hx hb 2 dL_law_455 (by decide) ?_
  refine lv_iaddN hx hb dL_law_456 ?_
  refine lw_sld hx hb hXs hbl hbb hS (show ii + 2 < Ln by omega) hLn dL_law_457 ?_
  rw [hq2]
  refine lv_aload_n hx hb dL_law_458 rfl (lv_at hl 2 rfl) ?_
  refine lv_iload hx hb dL_law_459 (lv_at hl 1 rfl) ?_
  refine lv_iconstN hx hb 3 dL_law_461 (by decide) ?_
  refine lv_iaddN hx hb dL_law_462 ?_
  refine lw_sld hx hb hXs hbl hbb hS (show ii + 3 < Ln by omega) hLn dL_law_463 ?_
  rw [hq3]
  have hMt := mX7_watch_b2 l hM i a b hi ha
  rw [hm0] at hMt
  refine mu_V (As := [.int (nI i), .int a, .int b]) (h0 := mm) (rest := []) (v := nI 0) hx hb hml hown hC hS hAb hMt (fun q h => h.elim (hLbM q) (hz0 q)) kV_L_111 ⟨rfl, rfl⟩ ⟨Nat.le_of_ble_eq_true rfl, Nat.le_of_ble_eq_true rfl⟩ (by rw [← hm0]; exact hM.1.recv hC cM_0 rfl) rfl hl (Nat.le_of_ble_eq_true rfl) ⟨show cells + 1 + 0 ≤ 609960 by omega, show slots + 6 + 0 ≤ 7266223 by omega⟩ dL_law_464 (fun H locs hB hS1 hz hkk => ?_)
  have hT := lt_m hX hM hx0 hm0 hdj hoL hoM hO hob ⟨L', ly', ad', hB, hm0, fun q h => Or.inl h⟩ hkk hS1
  obtain ⟨ly, L, ad, ly', L', ad', hX, hM, hx0, hm0, hdj, hoL, hoM, hO, hob, hS⟩ := hT
  have hLb := hX.2.2.1
  have hLbM := hM.2.2.1
  have hz0 : ∀ q, H.size ≤ q → bA E q := fun q z => by show E.2 0 ≤ q; rw [hE0]; exact Nat.le_trans hS.1 z
  refine lv_istore (lv' := [(6, .int (nI 0)), (5, .int (nI 2)), (4, .int (nI ii)), (0, .ref bb), (1, .ref x), (2, .ref mm), (3, .ref out)]) hx hb dL_law_467 hl (by decide) rfl (fun ls hl => ?_)
  refine lv_aload_n hx hb dL_law_469 rfl (lv_at hl 5 rfl) ?_
  have hMt := mX7_thrown l hM
  rw [hm0] at hMt
  refine ro_V (As := []) (h0 := mm) (rest := []) (v := nI 2) hx hb hml hown hC hS hAb hMt kV_L_98 ⟨rfl, rfl⟩ ⟨Nat.le_of_ble_eq_true rfl, Nat.le_of_ble_eq_true rfl⟩ (by rw [← hm0]; exact hM.1.recv hC cM_0 rfl) rfl hl (Nat.le_of_ble_eq_true rfl) ⟨show cells + 1 + 0 ≤ 609960 by omega, show slots + 6 + 0 ≤ 7266223 by omega⟩ dL_law_470 ?_
  refine lv_iload hx hb dL_law_473 (lv_at hl 1 rfl) ?_
  refine lv_icmp_eq (tgt := 480) hx hb dL_law_475 (by decide) (fun _ => ?_) (fun c9 => absurd rfl c9)
  refine lv_iload hx hb dL_law_480 (lv_at hl 1 rfl) ?_
  have hT : LT E s.heap x mm out _ _ _ _ H locs := ⟨ly, L, ad, ly', L', ad', hX, hM, hx0, hm0, hdj, hoL, hoM, hO, hob, hS⟩
  refine lv_if_ne (tgt := 497) hx hb dL_law_482 (by decide) (fun _ => ?_) (fun c9 => absurd c9 (by decide))
  refine lv_goto (tgt := 1820) hx hb dL_law_497 (by decide) ?_
  refine W.widen (k := cells + 1100) (n := slots + 14000) (by omega) (by omega) ?_
  exact kk _ _ _ _ _ _ hT (lv_sub hl [2, 3, 4, 5, 6] rfl)
set_option maxHeartbeats 4000000 in
set_option maxRecDepth 100000 in
theorem lc_paint_b1 (C0 : LC p l s m co E bb Ln xs) {c : Cy} {th : Int32} {v0 : Int64} {H : Heap} {locs : List Loc} {x mm out : Nat} (hT : LT E s.heap x mm out c c th v0 H locs) {ii : Nat} (hii : ii + 7 ≤ Ln) {cells slots : Nat} (hcs : cells + 1100 ≤ 609960 ∧ slots + 14000 ≤ 7266223) {ls : Array Slot} (hl : lv_has ls 9 [(4, .int (nI ii)), (0, .ref bb), (1, .ref x), (2, .ref mm), (3, .ref out)]) (kk : KK p l e s m below meth co bb E Q x mm out ii cells slots) (v w f u kd wb : Int32) (hq1 : xs (ii + 1) = v) (hq2 : xs (ii + 2) = w) (hq3 : xs (ii + 3) = f) (hq4 : xs (ii + 4) = u) (hq5 : xs (ii + 5) = kd) (hq6 : xs (ii + 6) = wb) (hv : isInS v (nI 0) (nI (c.R 10 1) - nI 1) = false) : W p l e room_1 s m #[Value.ref bb] below meth co H locs cells slots Q (F0 m 500 ls []) := by
  obtain ⟨hx, hb, hml, hown, hC, hNc, hXs, hbl, hE0, hst, hLn⟩ := C0
  have hAb : ∀ q, bA E q → bA E q := fun _ h => h
  have hbb : ¬ bA E bb := by show ¬ E.2 0 ≤ bb; rw [hE0]; exact Nat.not_le.mpr hbl
  obtain ⟨ly, L, ad, ly', L', ad', hX, hM, hx0, hm0, hdj, hoL, hoM, hO, hob, hS⟩ := hT
  have hLb := hX.2.2.1
  have hLbM := hM.2.2.1
  have hz0 : ∀ q, H.size ≤ q → bA E q := fun q z => by show E.2 0 ≤ q; rw [hE0]; exact Nat.le_trans hS.1 z
  refine lv_aload_n hx hb dL_law_500 rfl (lv_at hl 2 rfl) ?_
  refine lv_aload_n hx hb dL_law_501 rfl (lv_at hl 1 rfl) ?_
  refine lv_iload hx hb dL_law_502 (lv_at hl 0 rfl) ?_
  refine lv_iconstN hx hb 1 dL_law_504 (by decide) ?_
  refine lv_iaddN hx hb dL_law_505 ?_
  refine lw_sld hx hb hXs hbl hbb hS (show ii + 1 < Ln by omega) hLn dL_law_506 ?_
  rw [hq1]
  refine lv_aload_n hx hb dL_law_507 rfl (lv_at hl 1 rfl) ?_
  refine lv_iload hx hb dL_law_508 (lv_at hl 0 rfl) ?_
  refine lv_iconstN hx hb 2 dL_law_510 (by decide) ?_
  refine lv_iaddN hx hb dL_law_511 ?_
  refine lw_sld hx hb hXs hbl hbb hS (show ii + 2 < Ln by omega) hLn dL_law_512 ?_
  rw [hq2]
  refine lv_aload_n hx hb dL_law_513 rfl (lv_at hl 1 rfl) ?_
  refine lv_iload hx hb dL_law_514 (lv_at hl 0 rfl) ?_
  refine lv_iconstN hx hb 3 dL_law_516 (by decide) ?_
  refine lv_iaddN hx hb dL_law_517 ?_
  refine lw_sld hx hb hXs hbl hbb hS (show ii + 3 < Ln by omega) hLn dL_law_518 ?_
  rw [hq3]
  refine lv_aload_n hx hb dL_law_519 rfl (lv_at hl 1 rfl) ?_
  refine lv_iload hx hb dL_law_520 (lv_at hl 0 rfl) ?_
  refine lv_iconstN hx hb 4 dL_law_522 (by decide) ?_
  refine lv_iaddN hx hb dL_law_523 ?_
  refine lw_sld hx hb hXs hbl hbb hS (show ii + 4 < Ln by omega) hLn dL_law_524 ?_
  rw [hq4]
  refine lv_aload_n hx hb dL_law_525 rfl (lv_at hl 1 rfl) ?_
  refine lv_iload hx hb dL_law_526 (lv_at hl 0 rfl) ?_
  refine lv_iconstN hx hb 5 dL_law_528 (by decide) ?_
  refine lv_iaddN hx hb dL_law_529 ?_
  refine lw_sld hx hb hXs hbl hbb hS (show ii + 5 < Ln by omega) hLn dL_law_530 ?_
  rw [hq5]
  refine lv_aload_n hx hb dL_law_531 rfl (lv_at hl 1 rfl) ?_
  refine lv_iload hx hb dL_law_532 (lv_at hl 0 rfl) ?_
  refine lv_bipushN hx hb 6 dL_law_534 (by decide) ?_
  refine lv_iaddN hx hb dL_law_536 ?_
  refine lw_sld hx hb hXs hbl hbb hS (show ii + 6 < Ln by omega) hLn dL_law_537 ?_
  rw [hq6]
  refine lv_aload_n hx hb dL_law_538 rfl (lv_at hl 4 rfl) ?_
  have hMt := mL_paint_b1 l hst hX hO hoL hob v w f u kd wb hv
  rw [hx0] at hMt
  refine lw_S (As := [.ref x, .int v, .int w, .int f, .int u, .int kd, .int wb, .ref out]) (rest := []) hx hb hml hown hC hNc hS hAb hMt (fun q h => h.elim (hLb q) (fun h => h.elim (fun h => by rw [h]; exact hob) (hz0 q))) kW_L_112 ⟨rfl, rfl⟩ ⟨Nat.le_of_ble_eq_true rfl, Nat.le_of_ble_eq_true rfl⟩ rfl hl (Nat.le_of_ble_eq_true rfl) ⟨show cells + 1 ≤ 609960 by omega, show slots + 6 ≤ 7266223 by omega⟩ dL_law_539 (fun H locs hB hS1 hz hkk => ?_)
  have hT := lt_x hX hM hx0 hm0 hdj hoL hoM hO hob hB hkk hS1
  obtain ⟨ly, L, ad, ly', L', ad', hX, hM, hx0, hm0, hdj, hoL, hoM, hO, hob, hS⟩ := hT
  have hLb := hX.2.2.1
  have hLbM := hM.2.2.1
  have hz0 : ∀ q, H.size ≤ q → bA E q := fun q z => by show E.2 0 ≤ q; rw [hE0]; exact Nat.le_trans hS.1 z
  refine lv_istore (lv' := [(5, .int (nI 1)), (4, .int (nI ii)), (0, .ref bb), (1, .ref x), (2, .ref mm), (3, .ref out)]) hx hb dL_law_542 hl (by decide) rfl (fun ls hl => ?_)
  refine lv_aload_n hx hb dL_law_544 rfl (lv_at hl 4 rfl) ?_
  refine lv_aload_n hx hb dL_law_545 rfl (lv_at hl 2 rfl) ?_
  refine lv_iload hx hb dL_law_546 (lv_at hl 1 rfl) ?_
  refine lv_iconstN hx hb 1 dL_law_548 (by decide) ?_
  refine lv_iaddN hx hb dL_law_549 ?_
  refine lw_sld hx hb hXs hbl hbb hS (show ii + 1 < Ln by omega) hLn dL_law_550 ?_
  rw [hq1]
  refine lv_aload_n hx hb dL_law_551 rfl (lv_at hl 2 rfl) ?_
  refine lv_iload hx hb dL_law_552 (lv_at hl 1 rfl) ?_
  refine lv_iconstN hx hb 2 dL_law_554 (by decide) ?_
  refine lv_iaddN hx hb dL_law_555 ?_
  refine lw_sld hx hb hXs hbl hbb hS (show ii + 2 < Ln by omega) hLn dL_law_556 ?_
  rw [hq2]
  refine lv_aload_n hx hb dL_law_557 rfl (lv_at hl 2 rfl) ?_
  refine lv_iload hx hb dL_law_558 (lv_at hl 1 rfl) ?_
  refine lv_iconstN hx hb 3 dL_law_560 (by decide) ?_
  refine lv_iaddN hx hb dL_law_561 ?_
  refine lw_sld hx hb hXs hbl hbb hS (show ii + 3 < Ln by omega) hLn dL_law_562 ?_
  rw [hq3]
  refine lv_aload_n hx hb dL_law_563 rfl (lv_at hl 2 rfl) ?_
  refine lv_iload hx hb dL_law_564 (lv_at hl 1 rfl) ?_
  refine lv_iconstN hx hb 4 dL_law_566 (by decide) ?_
  refine lv_iaddN hx hb dL_law_567 ?_
  refine lw_sld hx hb hXs hbl hbb hS (show ii + 4 < Ln by omega) hLn dL_law_568 ?_
  rw [hq4]
  refine lv_aload_n hx hb dL_law_569 rfl (lv_at hl 2 rfl) ?_
  refine lv_iload hx hb dL_law_570 (lv_at hl 1 rfl) ?_
  refine lv_iconstN hx hb 5 dL_law_572 (by decide) ?_
  refine lv_iaddN hx hb dL_law_573 ?_
  refine lw_sld hx hb hXs hbl hbb hS (show ii + 5 < Ln by omega) hLn dL_law_574 ?_
  rw [hq5]
  refine lv_aload_n hx hb dL_law_575 rfl (lv_at hl 2 rfl) ?_
  refine lv_iload hx hb dL_law_576 (lv_at hl 1 rfl) ?_
  refine lv_bipushN hx hb 6 dL_law_578 (by decide) ?_
  refine lv_iaddN hx hb dL_law_580 ?_
  refine lw_sld hx hb hXs hbl hbb hS (show ii + 6 < Ln by omega) hLn dL_law_581 ?_
  rw [hq6]
  have hMt := mX7_paint_b1 l hM v w f u kd wb hv
  rw [hm0] at hMt
  refine mu_V (As := [.int v, .int w, .int f, .int u, .int kd, .int wb]) (h0 := mm) (rest := []) (v := nI 0) hx hb hml hown hC hS hAb hMt (fun q h => h.elim (hLbM q) (hz0 q)) kV_L_115 ⟨rfl, rfl⟩ ⟨Nat.le_of_ble_eq_true rfl, Nat.le_of_ble_eq_true rfl⟩ (by rw [← hm0]; exact hM.1.recv hC cM_0 rfl) rfl hl (Nat.le_of_ble_eq_true rfl) ⟨show cells + 1 + 0 ≤ 609960 by omega, show slots + 6 + 0 ≤ 7266223 by omega⟩ dL_law_582 (fun H locs hB hS1 hz hkk => ?_)
  have hT := lt_m hX hM hx0 hm0 hdj hoL hoM hO hob ⟨L', ly', ad', hB, hm0, fun q h => Or.inl h⟩ hkk hS1
  obtain ⟨ly, L, ad, ly', L', ad', hX, hM, hx0, hm0, hdj, hoL, hoM, hO, hob, hS⟩ := hT
  have hLb := hX.2.2.1
  have hLbM := hM.2.2.1
  have hz0 : ∀ q, H.size ≤ q → bA E q := fun q z => by show E.2 0 ≤ q; rw [hE0]; exact Nat.le_trans hS.1 z
  refine lv_istore (lv' := [(6, .int (nI 0)), (5, .int (nI 1)), (4, .int (nI ii)), (0, .ref bb), (1, .ref x), (2, .ref mm), (3, .ref out)]) hx hb dL_law_585 hl (by decide) rfl (fun ls hl => ?_)
  refine lv_aload_n hx hb dL_law_587 rfl (lv_at hl 5 rfl) ?_
  have hMt := mX7_thrown l hM
  rw [hm0] at hMt
  refine ro_V (As := []) (h0 := mm) (rest := []) (v := nI 1) hx hb hml hown hC hS hAb hMt kV_L_98 ⟨rfl, rfl⟩ ⟨Nat.le_of_ble_eq_true rfl, Nat.le_of_ble_eq_true rfl⟩ (by rw [← hm0]; exact hM.1.recv hC cM_0 rfl) rfl hl (Nat.le_of_ble_eq_true rfl) ⟨show cells + 1 + 0 ≤ 609960 by omega, show slots + 6 + 0 ≤ 7266223 by omega⟩ dL_law_588 ?_
  refine lv_iload hx hb dL_law_591 (lv_at hl 1 rfl) ?_
  refine lv_icmp_eq (tgt := 598) hx hb dL_law_593 (by decide) (fun _ => ?_) (fun c9 => absurd rfl c9)
  refine lv_iload hx hb dL_law_598 (lv_at hl 1 rfl) ?_
  have hT : LT E s.heap x mm out _ _ _ _ H locs := ⟨ly, L, ad, ly', L', ad', hX, hM, hx0, hm0, hdj, hoL, hoM, hO, hob, hS⟩
  refine lv_if_ne (tgt := 615) hx hb dL_law_600 (by decide) (fun _ => ?_) (fun c9 => absurd c9 (by decide))
  refine lv_goto (tgt := 1820) hx hb dL_law_615 (by decide) ?_
  refine W.widen (k := cells + 1100) (n := slots + 14000) (by omega) (by omega) ?_
  exact kk _ _ _ _ _ _ hT (lv_sub hl [2, 3, 4, 5, 6] rfl)
set_option maxHeartbeats 4000000 in
set_option maxRecDepth 100000 in
theorem lc_paint_b2 (C0 : LC p l s m co E bb Ln xs) {c : Cy} {th : Int32} {v0 : Int64} {H : Heap} {locs : List Loc} {x mm out : Nat} (hT : LT E s.heap x mm out c c th v0 H locs) {ii : Nat} (hii : ii + 7 ≤ Ln) {cells slots : Nat} (hcs : cells + 1100 ≤ 609960 ∧ slots + 14000 ≤ 7266223) {ls : Array Slot} (hl : lv_has ls 9 [(4, .int (nI ii)), (0, .ref bb), (1, .ref x), (2, .ref mm), (3, .ref out)]) (kk : KK p l e s m below meth co bb E Q x mm out ii cells slots) (h : Nat) (v f u kd wb : Int32) (hq1 : xs (ii + 1) = nI h) (hq2 : xs (ii + 2) = v) (hq3 : xs (ii + 3) = f) (hq4 : xs (ii + 4) = u) (hq5 : xs (ii + 5) = kd) (hq6 : xs (ii + 6) = wb) (hh : h < c.R 10 1) (hv : isInS v (nI 0) (nI (c.R 10 0) - nI 1) = false) : W p l e room_1 s m #[Value.ref bb] below meth co H locs cells slots Q (F0 m 500 ls []) := by
  obtain ⟨hx, hb, hml, hown, hC, hNc, hXs, hbl, hE0, hst, hLn⟩ := C0
  have hAb : ∀ q, bA E q → bA E q := fun _ h => h
  have hbb : ¬ bA E bb := by show ¬ E.2 0 ≤ bb; rw [hE0]; exact Nat.not_le.mpr hbl
  obtain ⟨ly, L, ad, ly', L', ad', hX, hM, hx0, hm0, hdj, hoL, hoM, hO, hob, hS⟩ := hT
  have hLb := hX.2.2.1
  have hLbM := hM.2.2.1
  have hz0 : ∀ q, H.size ≤ q → bA E q := fun q z => by show E.2 0 ≤ q; rw [hE0]; exact Nat.le_trans hS.1 z
  refine lv_aload_n hx hb dL_law_500 rfl (lv_at hl 2 rfl) ?_
  refine lv_aload_n hx hb dL_law_501 rfl (lv_at hl 1 rfl) ?_
  refine lv_iload hx hb dL_law_502 (lv_at hl 0 rfl) ?_
  refine lv_iconstN hx hb 1 dL_law_504 (by decide) ?_
  refine lv_iaddN hx hb dL_law_505 ?_
  refine lw_sld hx hb hXs hbl hbb hS (show ii + 1 < Ln by omega) hLn dL_law_506 ?_
  rw [hq1]
  refine lv_aload_n hx hb dL_law_507 rfl (lv_at hl 1 rfl) ?_
  refine lv_iload hx hb dL_law_508 (lv_at hl 0 rfl) ?_
  refine lv_iconstN hx hb 2 dL_law_510 (by decide) ?_
  refine lv_iaddN hx hb dL_law_511 ?_
  refine lw_sld hx hb hXs hbl hbb hS (show ii + 2 < Ln by omega) hLn dL_law_512 ?_
  rw [hq2]
  refine lv_aload_n hx hb dL_law_513 rfl (lv_at hl 1 rfl) ?_
  refine lv_iload hx hb dL_law_514 (lv_at hl 0 rfl) ?_
  refine lv_iconstN hx hb 3 dL_law_516 (by decide) ?_
  refine lv_iaddN hx hb dL_law_517 ?_
  refine lw_sld hx hb hXs hbl hbb hS (show ii + 3 < Ln by omega) hLn dL_law_518 ?_
  rw [hq3]
  refine lv_aload_n hx hb dL_law_519 rfl (lv_at hl 1 rfl) ?_
  refine lv_iload hx hb dL_law_520 (lv_at hl 0 rfl) ?_
  refine lv_iconstN hx hb 4 dL_law_522 (by decide) ?_
  refine lv_iaddN hx hb dL_law_523 ?_
  refine lw_sld hx hb hXs hbl hbb hS (show ii + 4 < Ln by omega) hLn dL_law_524 ?_
  rw [hq4]
  refine lv_aload_n hx hb dL_law_525 rfl (lv_at hl 1 rfl) ?_
  refine lv_iload hx hb dL_law_526 (lv_at hl 0 rfl) ?_
  refine lv_iconstN hx hb 5 dL_law_528 (by decide) ?_
  refine lv_iaddN hx hb dL_law_529 ?_
  refine lw_sld hx hb hXs hbl hbb hS (show ii + 5 < Ln by omega) hLn dL_law_530 ?_
  rw [hq5]
  refine lv_aload_n hx hb dL_law_531 rfl (lv_at hl 1 rfl) ?_
  refine lv_iload hx hb dL_law_532 (lv_at hl 0 rfl) ?_
  refine lv_bipushN hx hb 6 dL_law_534 (by decide) ?_
  refine lv_iaddN hx hb dL_law_536 ?_
  refine lw_sld hx hb hXs hbl hbb hS (show ii + 6 < Ln by omega) hLn dL_law_537 ?_
  rw [hq6]
  refine lv_aload_n hx hb dL_law_538 rfl (lv_at hl 4 rfl) ?_
  have hMt := mL_paint_b2 l hst hX hO hoL hob h v f u kd wb hh hv
  rw [hx0] at hMt
  refine lw_S (As := [.ref x, .int (nI h), .int v, .int f, .int u, .int kd, .int wb, .ref out]) (rest := []) hx hb hml hown hC hNc hS hAb hMt (fun q h => h.elim (hLb q) (fun h => h.elim (fun h => by rw [h]; exact hob) (hz0 q))) kW_L_112 ⟨rfl, rfl⟩ ⟨Nat.le_of_ble_eq_true rfl, Nat.le_of_ble_eq_true rfl⟩ rfl hl (Nat.le_of_ble_eq_true rfl) ⟨show cells + 1 ≤ 609960 by omega, show slots + 6 ≤ 7266223 by omega⟩ dL_law_539 (fun H locs hB hS1 hz hkk => ?_)
  have hT := lt_x hX hM hx0 hm0 hdj hoL hoM hO hob hB hkk hS1
  obtain ⟨ly, L, ad, ly', L', ad', hX, hM, hx0, hm0, hdj, hoL, hoM, hO, hob, hS⟩ := hT
  have hLb := hX.2.2.1
  have hLbM := hM.2.2.1
  have hz0 : ∀ q, H.size ≤ q → bA E q := fun q z => by show E.2 0 ≤ q; rw [hE0]; exact Nat.le_trans hS.1 z
  refine lv_istore (lv' := [(5, .int (nI 1)), (4, .int (nI ii)), (0, .ref bb), (1, .ref x), (2, .ref mm), (3, .ref out)]) hx hb dL_law_542 hl (by decide) rfl (fun ls hl => ?_)
  refine lv_aload_n hx hb dL_law_544 rfl (lv_at hl 4 rfl) ?_
  refine lv_aload_n hx hb dL_law_545 rfl (lv_at hl 2 rfl) ?_
  refine lv_iload hx hb dL_law_546 (lv_at hl 1 rfl) ?_
  refine lv_iconstN hx hb 1 dL_law_548 (by decide) ?_
  refine lv_iaddN hx hb dL_law_549 ?_
  refine lw_sld hx hb hXs hbl hbb hS (show ii + 1 < Ln by omega) hLn dL_law_550 ?_
  rw [hq1]
  refine lv_aload_n hx hb dL_law_551 rfl (lv_at hl 2 rfl) ?_
  refine lv_iload hx hb dL_law_552 (lv_at hl 1 rfl) ?_
  refine lv_iconstN hx hb 2 dL_law_554 (by decide) ?_
  refine lv_iaddN hx hb dL_law_555 ?_
  refine lw_sld hx hb hXs hbl hbb hS (show ii + 2 < Ln by omega) hLn dL_law_556 ?_
  rw [hq2]
  refine lv_aload_n hx hb dL_law_557 rfl (lv_at hl 2 rfl) ?_
  refine lv_iload hx hb dL_law_558 (lv_at hl 1 rfl) ?_
  refine lv_iconstN hx hb 3 dL_law_560 (by decide) ?_
  refine lv_iaddN hx hb dL_law_561 ?_
  refine lw_sld hx hb hXs hbl hbb hS (show ii + 3 < Ln by omega) hLn dL_law_562 ?_
  rw [hq3]
  refine lv_aload_n hx hb dL_law_563 rfl (lv_at hl 2 rfl) ?_
  refine lv_iload hx hb dL_law_564 (lv_at hl 1 rfl) ?_
  refine lv_iconstN hx hb 4 dL_law_566 (by decide) ?_
  refine lv_iaddN hx hb dL_law_567 ?_
  refine lw_sld hx hb hXs hbl hbb hS (show ii + 4 < Ln by omega) hLn dL_law_568 ?_
  rw [hq4]
  refine lv_aload_n hx hb dL_law_569 rfl (lv_at hl 2 rfl) ?_
  refine lv_iload hx hb dL_law_570 (lv_at hl 1 rfl) ?_
  refine lv_iconstN hx hb 5 dL_law_572 (by decide) ?_
  refine lv_iaddN hx hb dL_law_573 ?_
  refine lw_sld hx hb hXs hbl hbb hS (show ii + 5 < Ln by omega) hLn dL_law_574 ?_
  rw [hq5]
  refine lv_aload_n hx hb dL_law_575 rfl (lv_at hl 2 rfl) ?_
  refine lv_iload hx hb dL_law_576 (lv_at hl 1 rfl) ?_
  refine lv_bipushN hx hb 6 dL_law_578 (by decide) ?_
  refine lv_iaddN hx hb dL_law_580 ?_
  refine lw_sld hx hb hXs hbl hbb hS (show ii + 6 < Ln by omega) hLn dL_law_581 ?_
  rw [hq6]
  have hMt := mX7_paint_b1w l hM h v f u kd wb hh hv
  rw [hm0] at hMt
  refine mu_V (As := [.int (nI h), .int v, .int f, .int u, .int kd, .int wb]) (h0 := mm) (rest := []) (v := nI 0) hx hb hml hown hC hS hAb hMt (fun q h => h.elim (hLbM q) (hz0 q)) kV_L_115 ⟨rfl, rfl⟩ ⟨Nat.le_of_ble_eq_true rfl, Nat.le_of_ble_eq_true rfl⟩ (by rw [← hm0]; exact hM.1.recv hC cM_0 rfl) rfl hl (Nat.le_of_ble_eq_true rfl) ⟨show cells + 1 + 0 ≤ 609960 by omega, show slots + 6 + 0 ≤ 7266223 by omega⟩ dL_law_582 (fun H locs hB hS1 hz hkk => ?_)
  have hT := lt_m hX hM hx0 hm0 hdj hoL hoM hO hob ⟨L', ly', ad', hB, hm0, fun q h => Or.inl h⟩ hkk hS1
  obtain ⟨ly, L, ad, ly', L', ad', hX, hM, hx0, hm0, hdj, hoL, hoM, hO, hob, hS⟩ := hT
  have hLb := hX.2.2.1
  have hLbM := hM.2.2.1
  have hz0 : ∀ q, H.size ≤ q → bA E q := fun q z => by show E.2 0 ≤ q; rw [hE0]; exact Nat.le_trans hS.1 z
  refine lv_istore (lv' := [(6, .int (nI 0)), (5, .int (nI 1)), (4, .int (nI ii)), (0, .ref bb), (1, .ref x), (2, .ref mm), (3, .ref out)]) hx hb dL_law_585 hl (by decide) rfl (fun ls hl => ?_)
  refine lv_aload_n hx hb dL_law_587 rfl (lv_at hl 5 rfl) ?_
  have hMt := mX7_thrown l hM
  rw [hm0] at hMt
  refine ro_V (As := []) (h0 := mm) (rest := []) (v := nI 1) hx hb hml hown hC hS hAb hMt kV_L_98 ⟨rfl, rfl⟩ ⟨Nat.le_of_ble_eq_true rfl, Nat.le_of_ble_eq_true rfl⟩ (by rw [← hm0]; exact hM.1.recv hC cM_0 rfl) rfl hl (Nat.le_of_ble_eq_true rfl) ⟨show cells + 1 + 0 ≤ 609960 by omega, show slots + 6 + 0 ≤ 7266223 by omega⟩ dL_law_588 ?_
  refine lv_iload hx hb dL_law_591 (lv_at hl 1 rfl) ?_
  refine lv_icmp_eq (tgt := 598) hx hb dL_law_593 (by decide) (fun _ => ?_) (fun c9 => absurd rfl c9)
  refine lv_iload hx hb dL_law_598 (lv_at hl 1 rfl) ?_
  have hT : LT E s.heap x mm out _ _ _ _ H locs := ⟨ly, L, ad, ly', L', ad', hX, hM, hx0, hm0, hdj, hoL, hoM, hO, hob, hS⟩
  refine lv_if_ne (tgt := 615) hx hb dL_law_600 (by decide) (fun _ => ?_) (fun c9 => absurd c9 (by decide))
  refine lv_goto (tgt := 1820) hx hb dL_law_615 (by decide) ?_
  refine W.widen (k := cells + 1100) (n := slots + 14000) (by omega) (by omega) ?_
  exact kk _ _ _ _ _ _ hT (lv_sub hl [2, 3, 4, 5, 6] rfl)
set_option maxHeartbeats 4000000 in
set_option maxRecDepth 100000 in
theorem lc_paint_b3 (C0 : LC p l s m co E bb Ln xs) {c : Cy} {th : Int32} {v0 : Int64} {H : Heap} {locs : List Loc} {x mm out : Nat} (hT : LT E s.heap x mm out c c th v0 H locs) {ii : Nat} (hii : ii + 7 ≤ Ln) {cells slots : Nat} (hcs : cells + 1100 ≤ 609960 ∧ slots + 14000 ≤ 7266223) {ls : Array Slot} (hl : lv_has ls 9 [(4, .int (nI ii)), (0, .ref bb), (1, .ref x), (2, .ref mm), (3, .ref out)]) (kk : KK p l e s m below meth co bb E Q x mm out ii cells slots) (h i : Nat) (f u kd wb : Int32) (hq1 : xs (ii + 1) = nI h) (hq2 : xs (ii + 2) = nI i) (hq3 : xs (ii + 3) = f) (hq4 : xs (ii + 4) = u) (hq5 : xs (ii + 5) = kd) (hq6 : xs (ii + 6) = wb) (hh : h < c.R 10 1) (hi : i < c.R 10 0) (ha : paiOK c i f u kd wb = false) : W p l e room_1 s m #[Value.ref bb] below meth co H locs cells slots Q (F0 m 500 ls []) := by
  obtain ⟨hx, hb, hml, hown, hC, hNc, hXs, hbl, hE0, hst, hLn⟩ := C0
  have hAb : ∀ q, bA E q → bA E q := fun _ h => h
  have hbb : ¬ bA E bb := by show ¬ E.2 0 ≤ bb; rw [hE0]; exact Nat.not_le.mpr hbl
  obtain ⟨ly, L, ad, ly', L', ad', hX, hM, hx0, hm0, hdj, hoL, hoM, hO, hob, hS⟩ := hT
  have hLb := hX.2.2.1
  have hLbM := hM.2.2.1
  have hz0 : ∀ q, H.size ≤ q → bA E q := fun q z => by show E.2 0 ≤ q; rw [hE0]; exact Nat.le_trans hS.1 z
  refine lv_aload_n hx hb dL_law_500 rfl (lv_at hl 2 rfl) ?_
  refine lv_aload_n hx hb dL_law_501 rfl (lv_at hl 1 rfl) ?_
  refine lv_iload hx hb dL_law_502 (lv_at hl 0 rfl) ?_
  refine lv_iconstN hx hb 1 dL_law_504 (by decide) ?_
  refine lv_iaddN hx hb dL_law_505 ?_
  refine lw_sld hx hb hXs hbl hbb hS (show ii + 1 < Ln by omega) hLn dL_law_506 ?_
  rw [hq1]
  refine lv_aload_n hx hb dL_law_507 rfl (lv_at hl 1 rfl) ?_
  refine lv_iload hx hb dL_law_508 (lv_at hl 0 rfl) ?_
  refine lv_iconstN hx hb 2 dL_law_510 (by decide) ?_
  refine lv_iaddN hx hb dL_law_511 ?_
  refine lw_sld hx hb hXs hbl hbb hS (show ii + 2 < Ln by omega) hLn dL_law_512 ?_
  rw [hq2]
  refine lv_aload_n hx hb dL_law_513 rfl (lv_at hl 1 rfl) ?_
  refine lv_iload hx hb dL_law_514 (lv_at hl 0 rfl) ?_
  refine lv_iconstN hx hb 3 dL_law_516 (by decide) ?_
  refine lv_iaddN hx hb dL_law_517 ?_
  refine lw_sld hx hb hXs hbl hbb hS (show ii + 3 < Ln by omega) hLn dL_law_518 ?_
  rw [hq3]
  refine lv_aload_n hx hb dL_law_519 rfl (lv_at hl 1 rfl) ?_
  refine lv_iload hx hb dL_law_520 (lv_at hl 0 rfl) ?_
  refine lv_iconstN hx hb 4 dL_law_522 (by decide) ?_
  refine lv_iaddN hx hb dL_law_523 ?_
  refine lw_sld hx hb hXs hbl hbb hS (show ii + 4 < Ln by omega) hLn dL_law_524 ?_
  rw [hq4]
  refine lv_aload_n hx hb dL_law_525 rfl (lv_at hl 1 rfl) ?_
  refine lv_iload hx hb dL_law_526 (lv_at hl 0 rfl) ?_
  refine lv_iconstN hx hb 5 dL_law_528 (by decide) ?_
  refine lv_iaddN hx hb dL_law_529 ?_
  refine lw_sld hx hb hXs hbl hbb hS (show ii + 5 < Ln by omega) hLn dL_law_530 ?_
  rw [hq5]
  refine lv_aload_n hx hb dL_law_531 rfl (lv_at hl 1 rfl) ?_
  refine lv_iload hx hb dL_law_532 (lv_at hl 0 rfl) ?_
  refine lv_bipushN hx hb 6 dL_law_534 (by decide) ?_
  refine lv_iaddN hx hb dL_law_536 ?_
  refine lw_sld hx hb hXs hbl hbb hS (show ii + 6 < Ln by omega) hLn dL_law_537 ?_
  rw [hq6]
  refine lv_aload_n hx hb dL_law_538 rfl (lv_at hl 4 rfl) ?_
  have hMt := mL_paint_b3 l hst hX hO hoL hob h i f u kd wb hh hi ha
  rw [hx0] at hMt
  refine lw_S (As := [.ref x, .int (nI h), .int (nI i), .int f, .int u, .int kd, .int wb, .ref out]) (rest := []) hx hb hml hown hC hNc hS hAb hMt (fun q h => h.elim (hLb q) (fun h => h.elim (fun h => by rw [h]; exact hob) (hz0 q))) kW_L_112 ⟨rfl, rfl⟩ ⟨Nat.le_of_ble_eq_true rfl, Nat.le_of_ble_eq_true rfl⟩ rfl hl (Nat.le_of_ble_eq_true rfl) ⟨show cells + 1 ≤ 609960 by omega, show slots + 6 ≤ 7266223 by omega⟩ dL_law_539 (fun H locs hB hS1 hz hkk => ?_)
  have hT := lt_x hX hM hx0 hm0 hdj hoL hoM hO hob hB hkk hS1
  obtain ⟨ly, L, ad, ly', L', ad', hX, hM, hx0, hm0, hdj, hoL, hoM, hO, hob, hS⟩ := hT
  have hLb := hX.2.2.1
  have hLbM := hM.2.2.1
  have hz0 : ∀ q, H.size ≤ q → bA E q := fun q z => by show E.2 0 ≤ q; rw [hE0]; exact Nat.le_trans hS.1 z
  refine lv_istore (lv' := [(5, .int (nI 2)), (4, .int (nI ii)), (0, .ref bb), (1, .ref x), (2, .ref mm), (3, .ref out)]) hx hb dL_law_542 hl (by decide) rfl (fun ls hl => ?_)
  refine lv_aload_n hx hb dL_law_544 rfl (lv_at hl 4 rfl) ?_
  refine lv_aload_n hx hb dL_law_545 rfl (lv_at hl 2 rfl) ?_
  refine lv_iload hx hb dL_law_546 (lv_at hl 1 rfl) ?_
  refine lv_iconstN hx hb 1 dL_law_548 (by decide) ?_
  refine lv_iaddN hx hb dL_law_549 ?_
  refine lw_sld hx hb hXs hbl hbb hS (show ii + 1 < Ln by omega) hLn dL_law_550 ?_
  rw [hq1]
  refine lv_aload_n hx hb dL_law_551 rfl (lv_at hl 2 rfl) ?_
  refine lv_iload hx hb dL_law_552 (lv_at hl 1 rfl) ?_
  refine lv_iconstN hx hb 2 dL_law_554 (by decide) ?_
  refine lv_iaddN hx hb dL_law_555 ?_
  refine lw_sld hx hb hXs hbl hbb hS (show ii + 2 < Ln by omega) hLn dL_law_556 ?_
  rw [hq2]
  refine lv_aload_n hx hb dL_law_557 rfl (lv_at hl 2 rfl) ?_
  refine lv_iload hx hb dL_law_558 (lv_at hl 1 rfl) ?_
  refine lv_iconstN hx hb 3 dL_law_560 (by decide) ?_
  refine lv_iaddN hx hb dL_law_561 ?_
  refine lw_sld hx hb hXs hbl hbb hS (show ii + 3 < Ln by omega) hLn dL_law_562 ?_
  rw [hq3]
  refine lv_aload_n hx hb dL_law_563 rfl (lv_at hl 2 rfl) ?_
  refine lv_iload hx hb dL_law_564 (lv_at hl 1 rfl) ?_
  refine lv_iconstN hx hb 4 dL_law_566 (by decide) ?_
  refine lv_iaddN hx hb dL_law_567 ?_
  refine lw_sld hx hb hXs hbl hbb hS (show ii + 4 < Ln by omega) hLn dL_law_568 ?_
  rw [hq4]
  refine lv_aload_n hx hb dL_law_569 rfl (lv_at hl 2 rfl) ?_
  refine lv_iload hx hb dL_law_570 (lv_at hl 1 rfl) ?_
  refine lv_iconstN hx hb 5 dL_law_572 (by decide) ?_
  refine lv_iaddN hx hb dL_law_573 ?_
  refine lw_sld hx hb hXs hbl hbb hS (show ii + 5 < Ln by omega) hLn dL_law_574 ?_
  rw [hq5]
  refine lv_aload_n hx hb dL_law_575 rfl (lv_at hl 2 rfl) ?_
  refine lv_iload hx hb dL_law_576 (lv_at hl 1 rfl) ?_
  refine lv_bipushN hx hb 6 dL_law_578 (by decide) ?_
  refine lv_iaddN hx hb dL_law_580 ?_
  refine lw_sld hx hb hXs hbl hbb hS (show ii + 6 < Ln by omega) hLn dL_law_581 ?_
  rw [hq6]
  have hMt := mX7_paint_b2 l hM h i f u kd wb hh hi ha
  rw [hm0] at hMt
  refine mu_V (As := [.int (nI h), .int (nI i), .int f, .int u, .int kd, .int wb]) (h0 := mm) (rest := []) (v := nI 0) hx hb hml hown hC hS hAb hMt (fun q h => h.elim (hLbM q) (hz0 q)) kV_L_115 ⟨rfl, rfl⟩ ⟨Nat.le_of_ble_eq_true rfl, Nat.le_of_ble_eq_true rfl⟩ (by rw [← hm0]; exact hM.1.recv hC cM_0 rfl) rfl hl (Nat.le_of_ble_eq_true rfl) ⟨show cells + 1 + 0 ≤ 609960 by omega, show slots + 6 + 0 ≤ 7266223 by omega⟩ dL_law_582 (fun H locs hB hS1 hz hkk => ?_)
  have hT := lt_m hX hM hx0 hm0 hdj hoL hoM hO hob ⟨L', ly', ad', hB, hm0, fun q h => Or.inl h⟩ hkk hS1
  obtain ⟨ly, L, ad, ly', L', ad', hX, hM, hx0, hm0, hdj, hoL, hoM, hO, hob, hS⟩ := hT
  have hLb := hX.2.2.1
  have hLbM := hM.2.2.1
  have hz0 : ∀ q, H.size ≤ q → bA E q := fun q z => by show E.2 0 ≤ q; rw [hE0]; exact Nat.le_trans hS.1 z
  refine lv_istore (lv' := [(6, .int (nI 0)), (5, .int (nI 2)), (4, .int (nI ii)), (0, .ref bb), (1, .ref x), (2, .ref mm), (3, .ref out)]) hx hb dL_law_585 hl (by decide) rfl (fun ls hl => ?_)
  refine lv_aload_n hx hb dL_law_587 rfl (lv_at hl 5 rfl) ?_
  have hMt := mX7_thrown l hM
  rw [hm0] at hMt
  refine ro_V (As := []) (h0 := mm) (rest := []) (v := nI 2) hx hb hml hown hC hS hAb hMt kV_L_98 ⟨rfl, rfl⟩ ⟨Nat.le_of_ble_eq_true rfl, Nat.le_of_ble_eq_true rfl⟩ (by rw [← hm0]; exact hM.1.recv hC cM_0 rfl) rfl hl (Nat.le_of_ble_eq_true rfl) ⟨show cells + 1 + 0 ≤ 609960 by omega, show slots + 6 + 0 ≤ 7266223 by omega⟩ dL_law_588 ?_
  refine lv_iload hx hb dL_law_591 (lv_at hl 1 rfl) ?_
  refine lv_icmp_eq (tgt := 598) hx hb dL_law_593 (by decide) (fun _ => ?_) (fun c9 => absurd rfl c9)
  refine lv_iload hx hb dL_law_598 (lv_at hl 1 rfl) ?_
  have hT : LT E s.heap x mm out _ _ _ _ H locs := ⟨ly, L, ad, ly', L', ad', hX, hM, hx0, hm0, hdj, hoL, hoM, hO, hob, hS⟩
  refine lv_if_ne (tgt := 615) hx hb dL_law_600 (by decide) (fun _ => ?_) (fun c9 => absurd c9 (by decide))
  refine lv_goto (tgt := 1820) hx hb dL_law_615 (by decide) ?_
  refine W.widen (k := cells + 1100) (n := slots + 14000) (by omega) (by omega) ?_
  exact kk _ _ _ _ _ _ hT (lv_sub hl [2, 3, 4, 5, 6] rfl)
set_option maxHeartbeats 4000000 in
set_option maxRecDepth 100000 in
theorem lc_paint_b4 (C0 : LC p l s m co E bb Ln xs) {c : Cy} {th : Int32} {v0 : Int64} {H : Heap} {locs : List Loc} {x mm out : Nat} (hT : LT E s.heap x mm out c c th v0 H locs) {ii : Nat} (hii : ii + 7 ≤ Ln) {cells slots : Nat} (hcs : cells + 1100 ≤ 609960 ∧ slots + 14000 ≤ 7266223) {ls : Array Slot} (hl : lv_has ls 9 [(4, .int (nI ii)), (0, .ref bb), (1, .ref x), (2, .ref mm), (3, .ref out)]) (kk : KK p l e s m below meth co bb E Q x mm out ii cells slots) (h i f u kd : Nat) (wb : Int32) (hq1 : xs (ii + 1) = nI h) (hq2 : xs (ii + 2) = nI i) (hq3 : xs (ii + 3) = nI f) (hq4 : xs (ii + 4) = nI u) (hq5 : xs (ii + 5) = nI kd) (hq6 : xs (ii + 6) = wb) (hh : h < c.R 10 1) (hi : i < c.R 10 0) (hp : hasS c i (nI f) (nI u) = true) (hu : u ≤ 16) (hkd : kd < 4) (hw : isInS wb (-2) (nI 2) = true) (hs : 360 - c.R 3 h < u * mcS c h kd ∨ 60 ≤ c.R 10 2) : W p l e room_1 s m #[Value.ref bb] below meth co H locs cells slots Q (F0 m 500 ls []) := by
  obtain ⟨hx, hb, hml, hown, hC, hNc, hXs, hbl, hE0, hst, hLn⟩ := C0
  have hAb : ∀ q, bA E q → bA E q := fun _ h => h
  have hbb : ¬ bA E bb := by show ¬ E.2 0 ≤ bb; rw [hE0]; exact Nat.not_le.mpr hbl
  obtain ⟨ly, L, ad, ly', L', ad', hX, hM, hx0, hm0, hdj, hoL, hoM, hO, hob, hS⟩ := hT
  have hLb := hX.2.2.1
  have hLbM := hM.2.2.1
  have hz0 : ∀ q, H.size ≤ q → bA E q := fun q z => by show E.2 0 ≤ q; rw [hE0]; exact Nat.le_trans hS.1 z
  refine lv_aload_n hx hb dL_law_500 rfl (lv_at hl 2 rfl) ?_
  refine lv_aload_n hx hb dL_law_501 rfl (lv_at hl 1 rfl) ?_
  refine lv_iload hx hb dL_law_502 (lv_at hl 0 rfl) ?_
  refine lv_iconstN hx hb 1 dL_law_504 (by decide) ?_
  refine lv_iaddN hx hb dL_law_505 ?_
  refine lw_sld hx hb hXs hbl hbb hS (show ii + 1 < Ln by omega) hLn dL_law_506 ?_
  rw [hq1]
  refine lv_aload_n hx hb dL_law_507 rfl (lv_at hl 1 rfl) ?_
  refine lv_iload hx hb dL_law_508 (lv_at hl 0 rfl) ?_
  refine lv_iconstN hx hb 2 dL_law_510 (by decide) ?_
  refine lv_iaddN hx hb dL_law_511 ?_
  refine lw_sld hx hb hXs hbl hbb hS (show ii + 2 < Ln by omega) hLn dL_law_512 ?_
  rw [hq2]
  refine lv_aload_n hx hb dL_law_513 rfl (lv_at hl 1 rfl) ?_
  refine lv_iload hx hb dL_law_514 (lv_at hl 0 rfl) ?_
  refine lv_iconstN hx hb 3 dL_law_516 (by decide) ?_
  refine lv_iaddN hx hb dL_law_517 ?_
  refine lw_sld hx hb hXs hbl hbb hS (show ii + 3 < Ln by omega) hLn dL_law_518 ?_
  rw [hq3]
  refine lv_aload_n hx hb dL_law_519 rfl (lv_at hl 1 rfl) ?_
  refine lv_iload hx hb dL_law_520 (lv_at hl 0 rfl) ?_
  refine lv_iconstN hx hb 4 dL_law_522 (by decide) ?_
  refine lv_iaddN hx hb dL_law_523 ?_
  refine lw_sld hx hb hXs hbl hbb hS (show ii + 4 < Ln by omega) hLn dL_law_524 ?_
  rw [hq4]
  refine lv_aload_n hx hb dL_law_525 rfl (lv_at hl 1 rfl) ?_
  refine lv_iload hx hb dL_law_526 (lv_at hl 0 rfl) ?_
  refine lv_iconstN hx hb 5 dL_law_528 (by decide) ?_
  refine lv_iaddN hx hb dL_law_529 ?_
  refine lw_sld hx hb hXs hbl hbb hS (show ii + 5 < Ln by omega) hLn dL_law_530 ?_
  rw [hq5]
  refine lv_aload_n hx hb dL_law_531 rfl (lv_at hl 1 rfl) ?_
  refine lv_iload hx hb dL_law_532 (lv_at hl 0 rfl) ?_
  refine lv_bipushN hx hb 6 dL_law_534 (by decide) ?_
  refine lv_iaddN hx hb dL_law_536 ?_
  refine lw_sld hx hb hXs hbl hbb hS (show ii + 6 < Ln by omega) hLn dL_law_537 ?_
  rw [hq6]
  refine lv_aload_n hx hb dL_law_538 rfl (lv_at hl 4 rfl) ?_
  have hMt := mL_paint_b4 l hst hX hO hoL hob h i f u kd wb hh hi hp hu hkd hw hs
  rw [hx0] at hMt
  refine lw_S (As := [.ref x, .int (nI h), .int (nI i), .int (nI f), .int (nI u), .int (nI kd), .int wb, .ref out]) (rest := []) hx hb hml hown hC hNc hS hAb hMt (fun q h => h.elim (hLb q) (fun h => h.elim (fun h => by rw [h]; exact hob) (hz0 q))) kW_L_112 ⟨rfl, rfl⟩ ⟨Nat.le_of_ble_eq_true rfl, Nat.le_of_ble_eq_true rfl⟩ rfl hl (Nat.le_of_ble_eq_true rfl) ⟨show cells + 1 ≤ 609960 by omega, show slots + 6 ≤ 7266223 by omega⟩ dL_law_539 (fun H locs hB hS1 hz hkk => ?_)
  have hT := lt_x hX hM hx0 hm0 hdj hoL hoM hO hob hB hkk hS1
  obtain ⟨ly, L, ad, ly', L', ad', hX, hM, hx0, hm0, hdj, hoL, hoM, hO, hob, hS⟩ := hT
  have hLb := hX.2.2.1
  have hLbM := hM.2.2.1
  have hz0 : ∀ q, H.size ≤ q → bA E q := fun q z => by show E.2 0 ≤ q; rw [hE0]; exact Nat.le_trans hS.1 z
  refine lv_istore (lv' := [(5, .int (nI 3)), (4, .int (nI ii)), (0, .ref bb), (1, .ref x), (2, .ref mm), (3, .ref out)]) hx hb dL_law_542 hl (by decide) rfl (fun ls hl => ?_)
  refine lv_aload_n hx hb dL_law_544 rfl (lv_at hl 4 rfl) ?_
  refine lv_aload_n hx hb dL_law_545 rfl (lv_at hl 2 rfl) ?_
  refine lv_iload hx hb dL_law_546 (lv_at hl 1 rfl) ?_
  refine lv_iconstN hx hb 1 dL_law_548 (by decide) ?_
  refine lv_iaddN hx hb dL_law_549 ?_
  refine lw_sld hx hb hXs hbl hbb hS (show ii + 1 < Ln by omega) hLn dL_law_550 ?_
  rw [hq1]
  refine lv_aload_n hx hb dL_law_551 rfl (lv_at hl 2 rfl) ?_
  refine lv_iload hx hb dL_law_552 (lv_at hl 1 rfl) ?_
  refine lv_iconstN hx hb 2 dL_law_554 (by decide) ?_
  refine lv_iaddN hx hb dL_law_555 ?_
  refine lw_sld hx hb hXs hbl hbb hS (show ii + 2 < Ln by omega) hLn dL_law_556 ?_
  rw [hq2]
  refine lv_aload_n hx hb dL_law_557 rfl (lv_at hl 2 rfl) ?_
  refine lv_iload hx hb dL_law_558 (lv_at hl 1 rfl) ?_
  refine lv_iconstN hx hb 3 dL_law_560 (by decide) ?_
  refine lv_iaddN hx hb dL_law_561 ?_
  refine lw_sld hx hb hXs hbl hbb hS (show ii + 3 < Ln by omega) hLn dL_law_562 ?_
  rw [hq3]
  refine lv_aload_n hx hb dL_law_563 rfl (lv_at hl 2 rfl) ?_
  refine lv_iload hx hb dL_law_564 (lv_at hl 1 rfl) ?_
  refine lv_iconstN hx hb 4 dL_law_566 (by decide) ?_
  refine lv_iaddN hx hb dL_law_567 ?_
  refine lw_sld hx hb hXs hbl hbb hS (show ii + 4 < Ln by omega) hLn dL_law_568 ?_
  rw [hq4]
  refine lv_aload_n hx hb dL_law_569 rfl (lv_at hl 2 rfl) ?_
  refine lv_iload hx hb dL_law_570 (lv_at hl 1 rfl) ?_
  refine lv_iconstN hx hb 5 dL_law_572 (by decide) ?_
  refine lv_iaddN hx hb dL_law_573 ?_
  refine lw_sld hx hb hXs hbl hbb hS (show ii + 5 < Ln by omega) hLn dL_law_574 ?_
  rw [hq5]
  refine lv_aload_n hx hb dL_law_575 rfl (lv_at hl 2 rfl) ?_
  refine lv_iload hx hb dL_law_576 (lv_at hl 1 rfl) ?_
  refine lv_bipushN hx hb 6 dL_law_578 (by decide) ?_
  refine lv_iaddN hx hb dL_law_580 ?_
  refine lw_sld hx hb hXs hbl hbb hS (show ii + 6 < Ln by omega) hLn dL_law_581 ?_
  rw [hq6]
  have hMt := mX7_paint_b3 l hM h i f u kd wb hh hi hp hu hkd hw hs
  rw [hm0] at hMt
  refine mu_V (As := [.int (nI h), .int (nI i), .int (nI f), .int (nI u), .int (nI kd), .int wb]) (h0 := mm) (rest := []) (v := nI 0) hx hb hml hown hC hS hAb hMt (fun q h => h.elim (hLbM q) (hz0 q)) kV_L_115 ⟨rfl, rfl⟩ ⟨Nat.le_of_ble_eq_true rfl, Nat.le_of_ble_eq_true rfl⟩ (by rw [← hm0]; exact hM.1.recv hC cM_0 rfl) rfl hl (Nat.le_of_ble_eq_true rfl) ⟨show cells + 1 + 0 ≤ 609960 by omega, show slots + 6 + 0 ≤ 7266223 by omega⟩ dL_law_582 (fun H locs hB hS1 hz hkk => ?_)
  have hT := lt_m hX hM hx0 hm0 hdj hoL hoM hO hob ⟨L', ly', ad', hB, hm0, fun q h => Or.inl h⟩ hkk hS1
  obtain ⟨ly, L, ad, ly', L', ad', hX, hM, hx0, hm0, hdj, hoL, hoM, hO, hob, hS⟩ := hT
  have hLb := hX.2.2.1
  have hLbM := hM.2.2.1
  have hz0 : ∀ q, H.size ≤ q → bA E q := fun q z => by show E.2 0 ≤ q; rw [hE0]; exact Nat.le_trans hS.1 z
  refine lv_istore (lv' := [(6, .int (nI 0)), (5, .int (nI 3)), (4, .int (nI ii)), (0, .ref bb), (1, .ref x), (2, .ref mm), (3, .ref out)]) hx hb dL_law_585 hl (by decide) rfl (fun ls hl => ?_)
  refine lv_aload_n hx hb dL_law_587 rfl (lv_at hl 5 rfl) ?_
  have hMt := mX7_thrown l hM
  rw [hm0] at hMt
  refine ro_V (As := []) (h0 := mm) (rest := []) (v := nI 3) hx hb hml hown hC hS hAb hMt kV_L_98 ⟨rfl, rfl⟩ ⟨Nat.le_of_ble_eq_true rfl, Nat.le_of_ble_eq_true rfl⟩ (by rw [← hm0]; exact hM.1.recv hC cM_0 rfl) rfl hl (Nat.le_of_ble_eq_true rfl) ⟨show cells + 1 + 0 ≤ 609960 by omega, show slots + 6 + 0 ≤ 7266223 by omega⟩ dL_law_588 ?_
  refine lv_iload hx hb dL_law_591 (lv_at hl 1 rfl) ?_
  refine lv_icmp_eq (tgt := 598) hx hb dL_law_593 (by decide) (fun _ => ?_) (fun c9 => absurd rfl c9)
  refine lv_iload hx hb dL_law_598 (lv_at hl 1 rfl) ?_
  have hT : LT E s.heap x mm out _ _ _ _ H locs := ⟨ly, L, ad, ly', L', ad', hX, hM, hx0, hm0, hdj, hoL, hoM, hO, hob, hS⟩
  refine lv_if_ne (tgt := 615) hx hb dL_law_600 (by decide) (fun _ => ?_) (fun c9 => absurd c9 (by decide))
  refine lv_goto (tgt := 1820) hx hb dL_law_615 (by decide) ?_
  refine W.widen (k := cells + 1100) (n := slots + 14000) (by omega) (by omega) ?_
  exact kk _ _ _ _ _ _ hT (lv_sub hl [2, 3, 4, 5, 6] rfl)
set_option maxHeartbeats 4000000 in
set_option maxRecDepth 100000 in
theorem lc_paint_g (C0 : LC p l s m co E bb Ln xs) {c : Cy} {th : Int32} {v0 : Int64} {H : Heap} {locs : List Loc} {x mm out : Nat} (hT : LT E s.heap x mm out c c th v0 H locs) {ii : Nat} (hii : ii + 7 ≤ Ln) {cells slots : Nat} (hcs : cells + 1100 ≤ 609960 ∧ slots + 14000 ≤ 7266223) {ls : Array Slot} (hl : lv_has ls 9 [(4, .int (nI ii)), (0, .ref bb), (1, .ref x), (2, .ref mm), (3, .ref out)]) (kk : KK p l e s m below meth co bb E Q x mm out ii cells slots) (h i f u kd : Nat) (wb : Int32) (hq1 : xs (ii + 1) = nI h) (hq2 : xs (ii + 2) = nI i) (hq3 : xs (ii + 3) = nI f) (hq4 : xs (ii + 4) = nI u) (hq5 : xs (ii + 5) = nI kd) (hq6 : xs (ii + 6) = wb) (hh : h < c.R 10 1) (hi : i < c.R 10 0) (hp : hasS c i (nI f) (nI u) = true) (hu : 1 ≤ u ∧ u ≤ 16) (hf : f + u ≤ c.R 1 i) (hkd : kd < 4) (hw : isInS wb (-2) (nI 2) = true) (hs : u * mcS c h kd ≤ 360 - c.R 3 h) (hs2 : c.R 10 2 < 60) (heq : c.R 10 2 = c.R 11 2) : W p l e room_1 s m #[Value.ref bb] below meth co H locs cells slots Q (F0 m 500 ls []) := by
  obtain ⟨hx, hb, hml, hown, hC, hNc, hXs, hbl, hE0, hst, hLn⟩ := C0
  have hAb : ∀ q, bA E q → bA E q := fun _ h => h
  have hbb : ¬ bA E bb := by show ¬ E.2 0 ≤ bb; rw [hE0]; exact Nat.not_le.mpr hbl
  obtain ⟨ly, L, ad, ly', L', ad', hX, hM, hx0, hm0, hdj, hoL, hoM, hO, hob, hS⟩ := hT
  have hLb := hX.2.2.1
  have hLbM := hM.2.2.1
  have hz0 : ∀ q, H.size ≤ q → bA E q := fun q z => by show E.2 0 ≤ q; rw [hE0]; exact Nat.le_trans hS.1 z
  refine lv_aload_n hx hb dL_law_500 rfl (lv_at hl 2 rfl) ?_
  refine lv_aload_n hx hb dL_law_501 rfl (lv_at hl 1 rfl) ?_
  refine lv_iload hx hb dL_law_502 (lv_at hl 0 rfl) ?_
  refine lv_iconstN hx hb 1 dL_law_504 (by decide) ?_
  refine lv_iaddN hx hb dL_law_505 ?_
  refine lw_sld hx hb hXs hbl hbb hS (show ii + 1 < Ln by omega) hLn dL_law_506 ?_
  rw [hq1]
  refine lv_aload_n hx hb dL_law_507 rfl (lv_at hl 1 rfl) ?_
  refine lv_iload hx hb dL_law_508 (lv_at hl 0 rfl) ?_
  refine lv_iconstN hx hb 2 dL_law_510 (by decide) ?_
  refine lv_iaddN hx hb dL_law_511 ?_
  refine lw_sld hx hb hXs hbl hbb hS (show ii + 2 < Ln by omega) hLn dL_law_512 ?_
  rw [hq2]
  refine lv_aload_n hx hb dL_law_513 rfl (lv_at hl 1 rfl) ?_
  refine lv_iload hx hb dL_law_514 (lv_at hl 0 rfl) ?_
  refine lv_iconstN hx hb 3 dL_law_516 (by decide) ?_
  refine lv_iaddN hx hb dL_law_517 ?_
  refine lw_sld hx hb hXs hbl hbb hS (show ii + 3 < Ln by omega) hLn dL_law_518 ?_
  rw [hq3]
  refine lv_aload_n hx hb dL_law_519 rfl (lv_at hl 1 rfl) ?_
  refine lv_iload hx hb dL_law_520 (lv_at hl 0 rfl) ?_
  refine lv_iconstN hx hb 4 dL_law_522 (by decide) ?_
  refine lv_iaddN hx hb dL_law_523 ?_
  refine lw_sld hx hb hXs hbl hbb hS (show ii + 4 < Ln by omega) hLn dL_law_524 ?_
  rw [hq4]
  refine lv_aload_n hx hb dL_law_525 rfl (lv_at hl 1 rfl) ?_
  refine lv_iload hx hb dL_law_526 (lv_at hl 0 rfl) ?_
  refine lv_iconstN hx hb 5 dL_law_528 (by decide) ?_
  refine lv_iaddN hx hb dL_law_529 ?_
  refine lw_sld hx hb hXs hbl hbb hS (show ii + 5 < Ln by omega) hLn dL_law_530 ?_
  rw [hq5]
  refine lv_aload_n hx hb dL_law_531 rfl (lv_at hl 1 rfl) ?_
  refine lv_iload hx hb dL_law_532 (lv_at hl 0 rfl) ?_
  refine lv_bipushN hx hb 6 dL_law_534 (by decide) ?_
  refine lv_iaddN hx hb dL_law_536 ?_
  refine lw_sld hx hb hXs hbl hbb hS (show ii + 6 < Ln by omega) hLn dL_law_537 ?_
  rw [hq6]
  refine lv_aload_n hx hb dL_law_538 rfl (lv_at hl 4 rfl) ?_
  have hMt := mL_paint_g l hX hO hoL hob h i f u kd wb hh hi hp hu hf hkd hw hs hs2 heq
  rw [hx0] at hMt
  refine lw_S (As := [.ref x, .int (nI h), .int (nI i), .int (nI f), .int (nI u), .int (nI kd), .int wb, .ref out]) (rest := []) hx hb hml hown hC hNc hS hAb hMt (fun q h => h.elim (hLb q) (fun h => h.elim (fun h => by rw [h]; exact hob) (hz0 q))) kW_L_112 ⟨rfl, rfl⟩ ⟨Nat.le_of_ble_eq_true rfl, Nat.le_of_ble_eq_true rfl⟩ rfl hl (Nat.le_of_ble_eq_true rfl) ⟨show cells + 2 ≤ 609960 by omega, show slots + 211 ≤ 7266223 by omega⟩ dL_law_539 (fun H locs hB hS1 hz hkk => ?_)
  have hT := lt_x hX hM hx0 hm0 hdj hoL hoM hO hob hB hkk hS1
  obtain ⟨ly, L, ad, ly', L', ad', hX, hM, hx0, hm0, hdj, hoL, hoM, hO, hob, hS⟩ := hT
  have hLb := hX.2.2.1
  have hLbM := hM.2.2.1
  have hz0 : ∀ q, H.size ≤ q → bA E q := fun q z => by show E.2 0 ≤ q; rw [hE0]; exact Nat.le_trans hS.1 z
  refine lv_istore (lv' := [(5, .int (nI 0)), (4, .int (nI ii)), (0, .ref bb), (1, .ref x), (2, .ref mm), (3, .ref out)]) hx hb dL_law_542 hl (by decide) rfl (fun ls hl => ?_)
  refine lv_aload_n hx hb dL_law_544 rfl (lv_at hl 4 rfl) ?_
  refine lv_aload_n hx hb dL_law_545 rfl (lv_at hl 2 rfl) ?_
  refine lv_iload hx hb dL_law_546 (lv_at hl 1 rfl) ?_
  refine lv_iconstN hx hb 1 dL_law_548 (by decide) ?_
  refine lv_iaddN hx hb dL_law_549 ?_
  refine lw_sld hx hb hXs hbl hbb hS (show ii + 1 < Ln by omega) hLn dL_law_550 ?_
  rw [hq1]
  refine lv_aload_n hx hb dL_law_551 rfl (lv_at hl 2 rfl) ?_
  refine lv_iload hx hb dL_law_552 (lv_at hl 1 rfl) ?_
  refine lv_iconstN hx hb 2 dL_law_554 (by decide) ?_
  refine lv_iaddN hx hb dL_law_555 ?_
  refine lw_sld hx hb hXs hbl hbb hS (show ii + 2 < Ln by omega) hLn dL_law_556 ?_
  rw [hq2]
  refine lv_aload_n hx hb dL_law_557 rfl (lv_at hl 2 rfl) ?_
  refine lv_iload hx hb dL_law_558 (lv_at hl 1 rfl) ?_
  refine lv_iconstN hx hb 3 dL_law_560 (by decide) ?_
  refine lv_iaddN hx hb dL_law_561 ?_
  refine lw_sld hx hb hXs hbl hbb hS (show ii + 3 < Ln by omega) hLn dL_law_562 ?_
  rw [hq3]
  refine lv_aload_n hx hb dL_law_563 rfl (lv_at hl 2 rfl) ?_
  refine lv_iload hx hb dL_law_564 (lv_at hl 1 rfl) ?_
  refine lv_iconstN hx hb 4 dL_law_566 (by decide) ?_
  refine lv_iaddN hx hb dL_law_567 ?_
  refine lw_sld hx hb hXs hbl hbb hS (show ii + 4 < Ln by omega) hLn dL_law_568 ?_
  rw [hq4]
  refine lv_aload_n hx hb dL_law_569 rfl (lv_at hl 2 rfl) ?_
  refine lv_iload hx hb dL_law_570 (lv_at hl 1 rfl) ?_
  refine lv_iconstN hx hb 5 dL_law_572 (by decide) ?_
  refine lv_iaddN hx hb dL_law_573 ?_
  refine lw_sld hx hb hXs hbl hbb hS (show ii + 5 < Ln by omega) hLn dL_law_574 ?_
  rw [hq5]
  refine lv_aload_n hx hb dL_law_575 rfl (lv_at hl 2 rfl) ?_
  refine lv_iload hx hb dL_law_576 (lv_at hl 1 rfl) ?_
  refine lv_bipushN hx hb 6 dL_law_578 (by decide) ?_
  refine lv_iaddN hx hb dL_law_580 ?_
  refine lw_sld hx hb hXs hbl hbb hS (show ii + 6 < Ln by omega) hLn dL_law_581 ?_
  rw [hq6]
  have hMt := mX7_paint_g l hM h i f u kd wb hh hi hp hu hf hkd hw hs hs2
  rw [hm0] at hMt
  refine mu_V (As := [.int (nI h), .int (nI i), .int (nI f), .int (nI u), .int (nI kd), .int wb]) (h0 := mm) (rest := []) (v := nI (cwrS c h i f u kd)) hx hb hml hown hC hS hAb hMt (fun q h => h.elim (hLbM q) (hz0 q)) kV_L_115 ⟨rfl, rfl⟩ ⟨Nat.le_of_ble_eq_true rfl, Nat.le_of_ble_eq_true rfl⟩ (by rw [← hm0]; exact hM.1.recv hC cM_0 rfl) rfl hl (Nat.le_of_ble_eq_true rfl) ⟨show cells + 2 + 2 ≤ 609960 by omega, show slots + 211 + 211 ≤ 7266223 by omega⟩ dL_law_582 (fun H locs hB hS1 hz hkk => ?_)
  have hT := lt_m hX hM hx0 hm0 hdj hoL hoM hO hob hB hkk hS1
  obtain ⟨ly, L, ad, ly', L', ad', hX, hM, hx0, hm0, hdj, hoL, hoM, hO, hob, hS⟩ := hT
  have hLb := hX.2.2.1
  have hLbM := hM.2.2.1
  have hz0 : ∀ q, H.size ≤ q → bA E q := fun q z => by show E.2 0 ≤ q; rw [hE0]; exact Nat.le_trans hS.1 z
  refine lv_istore (lv' := [(6, .int (nI (cwrS c h i f u kd))), (5, .int (nI 0)), (4, .int (nI ii)), (0, .ref bb), (1, .ref x), (2, .ref mm), (3, .ref out)]) hx hb dL_law_585 hl (by decide) rfl (fun ls hl => ?_)
  refine lv_aload_n hx hb dL_law_587 rfl (lv_at hl 5 rfl) ?_
  have hMt := mX7_thrown l hM
  rw [hm0] at hMt
  refine ro_V (As := []) (h0 := mm) (rest := []) (v := nI 0) hx hb hml hown hC hS hAb hMt kV_L_98 ⟨rfl, rfl⟩ ⟨Nat.le_of_ble_eq_true rfl, Nat.le_of_ble_eq_true rfl⟩ (by rw [← hm0]; exact hM.1.recv hC cM_0 rfl) rfl hl (Nat.le_of_ble_eq_true rfl) ⟨show cells + 4 + 0 ≤ 609960 by omega, show slots + 422 + 0 ≤ 7266223 by omega⟩ dL_law_588 ?_
  refine lv_iload hx hb dL_law_591 (lv_at hl 1 rfl) ?_
  refine lv_icmp_eq (tgt := 598) hx hb dL_law_593 (by decide) (fun _ => ?_) (fun c9 => absurd rfl c9)
  refine lv_iload hx hb dL_law_598 (lv_at hl 1 rfl) ?_
  have hT : LT E s.heap x mm out _ _ _ _ H locs := ⟨ly, L, ad, ly', L', ad', hX, hM, hx0, hm0, hdj, hoL, hoM, hO, hob, hS⟩
  refine lv_if_ne (tgt := 615) hx hb dL_law_600 (by decide) (fun c9 => absurd (by decide) c9) (fun _ => ?_)
  refine lv_aload_n hx hb dL_law_603 rfl (lv_at hl 6 rfl) ?_
  refine lv_iconstN hx hb 0 dL_law_604 (by decide) ?_
  refine lw_lald hx hb hC hO dL_law_605 ?_
  refine lv_iload hx hb dL_law_606 (lv_at hl 0 rfl) ?_
  refine lv_i2l (v := (nI (cwrS c h i f u kd)).toInt64) hx hb dL_law_608 rfl ?_
  refine W.lcmp hx hb dL_law_609 ?_
  rw [lg_self]
  refine lv_if_eq (tgt := 615) hx hb dL_law_610 (by decide) (fun _ => ?_) (fun c9 => absurd rfl c9)
  refine lv_goto (tgt := 1820) hx hb dL_law_615 (by decide) ?_
  refine W.widen (k := cells + 1100) (n := slots + 14000) (by omega) (by omega) ?_
  exact kk _ _ _ _ _ _ hT (lv_sub hl [2, 3, 4, 5, 6] rfl)
set_option maxHeartbeats 4000000 in
set_option maxRecDepth 100000 in
theorem lc_buff_g (C0 : LC p l s m co E bb Ln xs) {c : Cy} {th : Int32} {v0 : Int64} {H : Heap} {locs : List Loc} {x mm out : Nat} (hT : LT E s.heap x mm out c c th v0 H locs) {ii : Nat} (hii : ii + 7 ≤ Ln) {cells slots : Nat} (hcs : cells + 1100 ≤ 609960 ∧ slots + 14000 ≤ 7266223) {ls : Array Slot} (hl : lv_has ls 9 [(4, .int (nI ii)), (0, .ref bb), (1, .ref x), (2, .ref mm), (3, .ref out)]) (kk : KK p l e s m below meth co bb E Q x mm out ii cells slots) (i : Nat) (hq1 : xs (ii + 1) = nI i) (hi : i < c.R 10 0) (hc : ¬ c.I 0 0 < nI (ctbS c i)) : W p l e room_1 s m #[Value.ref bb] below meth co H locs cells slots Q (F0 m 618 ls []) := by
  obtain ⟨hx, hb, hml, hown, hC, hNc, hXs, hbl, hE0, hst, hLn⟩ := C0
  have hAb : ∀ q, bA E q → bA E q := fun _ h => h
  have hbb : ¬ bA E bb := by show ¬ E.2 0 ≤ bb; rw [hE0]; exact Nat.not_le.mpr hbl
  obtain ⟨ly, L, ad, ly', L', ad', hX, hM, hx0, hm0, hdj, hoL, hoM, hO, hob, hS⟩ := hT
  have hLb := hX.2.2.1
  have hLbM := hM.2.2.1
  have hz0 : ∀ q, H.size ≤ q → bA E q := fun q z => by show E.2 0 ≤ q; rw [hE0]; exact Nat.le_trans hS.1 z
  refine lv_aload_n hx hb dL_law_618 rfl (lv_at hl 2 rfl) ?_
  refine lv_aload_n hx hb dL_law_619 rfl (lv_at hl 1 rfl) ?_
  refine lv_iload hx hb dL_law_620 (lv_at hl 0 rfl) ?_
  refine lv_iconstN hx hb 1 dL_law_622 (by decide) ?_
  refine lv_iaddN hx hb dL_law_623 ?_
  refine lw_sld hx hb hXs hbl hbb hS (show ii + 1 < Ln by omega) hLn dL_law_624 ?_
  rw [hq1]
  refine lv_aload_n hx hb dL_law_625 rfl (lv_at hl 4 rfl) ?_
  have hMt := mL_buff_g l hX hO hoL hob i hi hc
  rw [hx0] at hMt
  refine lw_S (As := [.ref x, .int (nI i), .ref out]) (rest := []) hx hb hml hown hC hNc hS hAb hMt (fun q h => h.elim (hLb q) (fun h => h.elim (fun h => by rw [h]; exact hob) (hz0 q))) kW_L_116 ⟨rfl, rfl⟩ ⟨Nat.le_of_ble_eq_true rfl, Nat.le_of_ble_eq_true rfl⟩ rfl hl (Nat.le_of_ble_eq_true rfl) ⟨show cells + 0 ≤ 609960 by omega, show slots + 0 ≤ 7266223 by omega⟩ dL_law_626 (fun H locs hB hS1 hz hkk => ?_)
  have hT := lt_x hX hM hx0 hm0 hdj hoL hoM hO hob hB hkk hS1
  obtain ⟨ly, L, ad, ly', L', ad', hX, hM, hx0, hm0, hdj, hoL, hoM, hO, hob, hS⟩ := hT
  have hLb := hX.2.2.1
  have hLbM := hM.2.2.1
  have hz0 : ∀ q, H.size ≤ q → bA E q := fun q z => by show E.2 0 ≤ q; rw [hE0]; exact Nat.le_trans hS.1 z
  refine lv_istore (lv' := [(5, .int (nI 0)), (4, .int (nI ii)), (0, .ref bb), (1, .ref x), (2, .ref mm), (3, .ref out)]) hx hb dL_law_629 hl (by decide) rfl (fun ls hl => ?_)
  refine lv_aload_n hx hb dL_law_631 rfl (lv_at hl 4 rfl) ?_
  refine lv_aload_n hx hb dL_law_632 rfl (lv_at hl 2 rfl) ?_
  refine lv_iload hx hb dL_law_633 (lv_at hl 1 rfl) ?_
  refine lv_iconstN hx hb 1 dL_law_635 (by decide) ?_
  refine lv_iaddN hx hb dL_law_636 ?_
  refine lw_sld hx hb hXs hbl hbb hS (show ii + 1 < Ln by omega) hLn dL_law_637 ?_
  rw [hq1]
  have hMt := mX7_buff_g l hM i hi hc
  rw [hm0] at hMt
  refine mu_V (As := [.int (nI i)]) (h0 := mm) (rest := []) (v := nI (ctbS c i)) hx hb hml hown hC hS hAb hMt (fun q h => h.elim (hLbM q) (hz0 q)) kV_L_119 ⟨rfl, rfl⟩ ⟨Nat.le_of_ble_eq_true rfl, Nat.le_of_ble_eq_true rfl⟩ (by rw [← hm0]; exact hM.1.recv hC cM_0 rfl) rfl hl (Nat.le_of_ble_eq_true rfl) ⟨show cells + 0 ≤ 609960 by omega, show slots + 0 ≤ 7266223 by omega⟩ dL_law_638 (fun H locs hB hS1 hz hkk => ?_)
  have hT := lt_m hX hM hx0 hm0 hdj hoL hoM hO hob ⟨L', ly', ad', hB, hm0, fun q h => Or.inl h⟩ hkk hS1
  obtain ⟨ly, L, ad, ly', L', ad', hX, hM, hx0, hm0, hdj, hoL, hoM, hO, hob, hS⟩ := hT
  have hLb := hX.2.2.1
  have hLbM := hM.2.2.1
  have hz0 : ∀ q, H.size ≤ q → bA E q := fun q z => by show E.2 0 ≤ q; rw [hE0]; exact Nat.le_trans hS.1 z
  refine lv_istore (lv' := [(6, .int (nI (ctbS c i))), (5, .int (nI 0)), (4, .int (nI ii)), (0, .ref bb), (1, .ref x), (2, .ref mm), (3, .ref out)]) hx hb dL_law_641 hl (by decide) rfl (fun ls hl => ?_)
  refine lv_aload_n hx hb dL_law_643 rfl (lv_at hl 5 rfl) ?_
  have hMt := mX7_thrown l hM
  rw [hm0] at hMt
  refine ro_V (As := []) (h0 := mm) (rest := []) (v := nI 0) hx hb hml hown hC hS hAb hMt kV_L_98 ⟨rfl, rfl⟩ ⟨Nat.le_of_ble_eq_true rfl, Nat.le_of_ble_eq_true rfl⟩ (by rw [← hm0]; exact hM.1.recv hC cM_0 rfl) rfl hl (Nat.le_of_ble_eq_true rfl) ⟨show cells + 0 ≤ 609960 by omega, show slots + 0 ≤ 7266223 by omega⟩ dL_law_644 ?_
  refine lv_iload hx hb dL_law_647 (lv_at hl 1 rfl) ?_
  refine lv_icmp_eq (tgt := 654) hx hb dL_law_649 (by decide) (fun _ => ?_) (fun c9 => absurd rfl c9)
  refine lv_iload hx hb dL_law_654 (lv_at hl 1 rfl) ?_
  have hT : LT E s.heap x mm out _ _ _ _ H locs := ⟨ly, L, ad, ly', L', ad', hX, hM, hx0, hm0, hdj, hoL, hoM, hO, hob, hS⟩
  refine lv_if_ne (tgt := 671) hx hb dL_law_656 (by decide) (fun c9 => absurd (by decide) c9) (fun _ => ?_)
  refine lv_aload_n hx hb dL_law_659 rfl (lv_at hl 6 rfl) ?_
  refine lv_iconstN hx hb 0 dL_law_660 (by decide) ?_
  refine lw_lald hx hb hC hO dL_law_661 ?_
  refine lv_iload hx hb dL_law_662 (lv_at hl 0 rfl) ?_
  refine lv_i2l (v := (nI (ctbS c i)).toInt64) hx hb dL_law_664 rfl ?_
  refine W.lcmp hx hb dL_law_665 ?_
  rw [lg_self]
  refine lv_if_eq (tgt := 671) hx hb dL_law_666 (by decide) (fun _ => ?_) (fun c9 => absurd rfl c9)
  refine lv_goto (tgt := 1820) hx hb dL_law_671 (by decide) ?_
  refine W.widen (k := cells + 1100) (n := slots + 14000) (by omega) (by omega) ?_
  exact kk _ _ _ _ _ _ hT (lv_sub hl [2, 3, 4, 5, 6] rfl)
set_option maxHeartbeats 4000000 in
set_option maxRecDepth 100000 in
theorem lc_buff_b1 (C0 : LC p l s m co E bb Ln xs) {c : Cy} {th : Int32} {v0 : Int64} {H : Heap} {locs : List Loc} {x mm out : Nat} (hT : LT E s.heap x mm out c c th v0 H locs) {ii : Nat} (hii : ii + 7 ≤ Ln) {cells slots : Nat} (hcs : cells + 1100 ≤ 609960 ∧ slots + 14000 ≤ 7266223) {ls : Array Slot} (hl : lv_has ls 9 [(4, .int (nI ii)), (0, .ref bb), (1, .ref x), (2, .ref mm), (3, .ref out)]) (kk : KK p l e s m below meth co bb E Q x mm out ii cells slots) (v : Int32) (hq1 : xs (ii + 1) = v) (hv : isInS v (nI 0) (nI (c.R 10 0) - nI 1) = false) : W p l e room_1 s m #[Value.ref bb] below meth co H locs cells slots Q (F0 m 618 ls []) := by
  obtain ⟨hx, hb, hml, hown, hC, hNc, hXs, hbl, hE0, hst, hLn⟩ := C0
  have hAb : ∀ q, bA E q → bA E q := fun _ h => h
  have hbb : ¬ bA E bb := by show ¬ E.2 0 ≤ bb; rw [hE0]; exact Nat.not_le.mpr hbl
  obtain ⟨ly, L, ad, ly', L', ad', hX, hM, hx0, hm0, hdj, hoL, hoM, hO, hob, hS⟩ := hT
  have hLb := hX.2.2.1
  have hLbM := hM.2.2.1
  have hz0 : ∀ q, H.size ≤ q → bA E q := fun q z => by show E.2 0 ≤ q; rw [hE0]; exact Nat.le_trans hS.1 z
  refine lv_aload_n hx hb dL_law_618 rfl (lv_at hl 2 rfl) ?_
  refine lv_aload_n hx hb dL_law_619 rfl (lv_at hl 1 rfl) ?_
  refine lv_iload hx hb dL_law_620 (lv_at hl 0 rfl) ?_
  refine lv_iconstN hx hb 1 dL_law_622 (by decide) ?_
  refine lv_iaddN hx hb dL_law_623 ?_
  refine lw_sld hx hb hXs hbl hbb hS (show ii + 1 < Ln by omega) hLn dL_law_624 ?_
  rw [hq1]
  refine lv_aload_n hx hb dL_law_625 rfl (lv_at hl 4 rfl) ?_
  have hMt := mL_buff_b1 l hst hX hO hoL hob v hv
  rw [hx0] at hMt
  refine lw_S (As := [.ref x, .int v, .ref out]) (rest := []) hx hb hml hown hC hNc hS hAb hMt (fun q h => h.elim (hLb q) (fun h => h.elim (fun h => by rw [h]; exact hob) (hz0 q))) kW_L_116 ⟨rfl, rfl⟩ ⟨Nat.le_of_ble_eq_true rfl, Nat.le_of_ble_eq_true rfl⟩ rfl hl (Nat.le_of_ble_eq_true rfl) ⟨show cells + 1 ≤ 609960 by omega, show slots + 6 ≤ 7266223 by omega⟩ dL_law_626 (fun H locs hB hS1 hz hkk => ?_)
  have hT := lt_x hX hM hx0 hm0 hdj hoL hoM hO hob hB hkk hS1
  obtain ⟨ly, L, ad, ly', L', ad', hX, hM, hx0, hm0, hdj, hoL, hoM, hO, hob, hS⟩ := hT
  have hLb := hX.2.2.1
  have hLbM := hM.2.2.1
  have hz0 : ∀ q, H.size ≤ q → bA E q := fun q z => by show E.2 0 ≤ q; rw [hE0]; exact Nat.le_trans hS.1 z
  refine lv_istore (lv' := [(5, .int (nI 1)), (4, .int (nI ii)), (0, .ref bb), (1, .ref x), (2, .ref mm), (3, .ref out)]) hx hb dL_law_629 hl (by decide) rfl (fun ls hl => ?_)
  refine lv_aload_n hx hb dL_law_631 rfl (lv_at hl 4 rfl) ?_
  refine lv_aload_n hx hb dL_law_632 rfl (lv_at hl 2 rfl) ?_
  refine lv_iload hx hb dL_law_633 (lv_at hl 1 rfl) ?_
  refine lv_iconstN hx hb 1 dL_law_635 (by decide) ?_
  refine lv_iaddN hx hb dL_law_636 ?_
  refine lw_sld hx hb hXs hbl hbb hS (show ii + 1 < Ln by omega) hLn dL_law_637 ?_
  rw [hq1]
  have hMt := mX7_buff_b1 l hM v hv
  rw [hm0] at hMt
  refine mu_V (As := [.int v]) (h0 := mm) (rest := []) (v := nI 0) hx hb hml hown hC hS hAb hMt (fun q h => h.elim (hLbM q) (hz0 q)) kV_L_119 ⟨rfl, rfl⟩ ⟨Nat.le_of_ble_eq_true rfl, Nat.le_of_ble_eq_true rfl⟩ (by rw [← hm0]; exact hM.1.recv hC cM_0 rfl) rfl hl (Nat.le_of_ble_eq_true rfl) ⟨show cells + 1 + 0 ≤ 609960 by omega, show slots + 6 + 0 ≤ 7266223 by omega⟩ dL_law_638 (fun H locs hB hS1 hz hkk => ?_)
  have hT := lt_m hX hM hx0 hm0 hdj hoL hoM hO hob ⟨L', ly', ad', hB, hm0, fun q h => Or.inl h⟩ hkk hS1
  obtain ⟨ly, L, ad, ly', L', ad', hX, hM, hx0, hm0, hdj, hoL, hoM, hO, hob, hS⟩ := hT
  have hLb := hX.2.2.1
  have hLbM := hM.2.2.1
  have hz0 : ∀ q, H.size ≤ q → bA E q := fun q z => by show E.2 0 ≤ q; rw [hE0]; exact Nat.le_trans hS.1 z
  refine lv_istore (lv' := [(6, .int (nI 0)), (5, .int (nI 1)), (4, .int (nI ii)), (0, .ref bb), (1, .ref x), (2, .ref mm), (3, .ref out)]) hx hb dL_law_641 hl (by decide) rfl (fun ls hl => ?_)
  refine lv_aload_n hx hb dL_law_643 rfl (lv_at hl 5 rfl) ?_
  have hMt := mX7_thrown l hM
  rw [hm0] at hMt
  refine ro_V (As := []) (h0 := mm) (rest := []) (v := nI 1) hx hb hml hown hC hS hAb hMt kV_L_98 ⟨rfl, rfl⟩ ⟨Nat.le_of_ble_eq_true rfl, Nat.le_of_ble_eq_true rfl⟩ (by rw [← hm0]; exact hM.1.recv hC cM_0 rfl) rfl hl (Nat.le_of_ble_eq_true rfl) ⟨show cells + 1 + 0 ≤ 609960 by omega, show slots + 6 + 0 ≤ 7266223 by omega⟩ dL_law_644 ?_
  refine lv_iload hx hb dL_law_647 (lv_at hl 1 rfl) ?_
  refine lv_icmp_eq (tgt := 654) hx hb dL_law_649 (by decide) (fun _ => ?_) (fun c9 => absurd rfl c9)
  refine lv_iload hx hb dL_law_654 (lv_at hl 1 rfl) ?_
  have hT : LT E s.heap x mm out _ _ _ _ H locs := ⟨ly, L, ad, ly', L', ad', hX, hM, hx0, hm0, hdj, hoL, hoM, hO, hob, hS⟩
  refine lv_if_ne (tgt := 671) hx hb dL_law_656 (by decide) (fun _ => ?_) (fun c9 => absurd c9 (by decide))
  refine lv_goto (tgt := 1820) hx hb dL_law_671 (by decide) ?_
  refine W.widen (k := cells + 1100) (n := slots + 14000) (by omega) (by omega) ?_
  exact kk _ _ _ _ _ _ hT (lv_sub hl [2, 3, 4, 5, 6] rfl)
set_option maxHeartbeats 4000000 in
set_option maxRecDepth 100000 in
theorem lc_buff_b2 (C0 : LC p l s m co E bb Ln xs) {c : Cy} {th : Int32} {v0 : Int64} {H : Heap} {locs : List Loc} {x mm out : Nat} (hT : LT E s.heap x mm out c c th v0 H locs) {ii : Nat} (hii : ii + 7 ≤ Ln) {cells slots : Nat} (hcs : cells + 1100 ≤ 609960 ∧ slots + 14000 ≤ 7266223) {ls : Array Slot} (hl : lv_has ls 9 [(4, .int (nI ii)), (0, .ref bb), (1, .ref x), (2, .ref mm), (3, .ref out)]) (kk : KK p l e s m below meth co bb E Q x mm out ii cells slots) (i : Nat) (hq1 : xs (ii + 1) = nI i) (hi : i < c.R 10 0) (hc : c.I 0 0 < nI (ctbS c i)) : W p l e room_1 s m #[Value.ref bb] below meth co H locs cells slots Q (F0 m 618 ls []) := by
  obtain ⟨hx, hb, hml, hown, hC, hNc, hXs, hbl, hE0, hst, hLn⟩ := C0
  have hAb : ∀ q, bA E q → bA E q := fun _ h => h
  have hbb : ¬ bA E bb := by show ¬ E.2 0 ≤ bb; rw [hE0]; exact Nat.not_le.mpr hbl
  obtain ⟨ly, L, ad, ly', L', ad', hX, hM, hx0, hm0, hdj, hoL, hoM, hO, hob, hS⟩ := hT
  have hLb := hX.2.2.1
  have hLbM := hM.2.2.1
  have hz0 : ∀ q, H.size ≤ q → bA E q := fun q z => by show E.2 0 ≤ q; rw [hE0]; exact Nat.le_trans hS.1 z
  refine lv_aload_n hx hb dL_law_618 rfl (lv_at hl 2 rfl) ?_
  refine lv_aload_n hx hb dL_law_619 rfl (lv_at hl 1 rfl) ?_
  refine lv_iload hx hb dL_law_620 (lv_at hl 0 rfl) ?_
  refine lv_iconstN hx hb 1 dL_law_622 (by decide) ?_
  refine lv_iaddN hx hb dL_law_623 ?_
  refine lw_sld hx hb hXs hbl hbb hS (show ii + 1 < Ln by omega) hLn dL_law_624 ?_
  rw [hq1]
  refine lv_aload_n hx hb dL_law_625 rfl (lv_at hl 4 rfl) ?_
  have hMt := mL_buff_b2 l hst hX hO hoL hob i hi hc
  rw [hx0] at hMt
  refine lw_S (As := [.ref x, .int (nI i), .ref out]) (rest := []) hx hb hml hown hC hNc hS hAb hMt (fun q h => h.elim (hLb q) (fun h => h.elim (fun h => by rw [h]; exact hob) (hz0 q))) kW_L_116 ⟨rfl, rfl⟩ ⟨Nat.le_of_ble_eq_true rfl, Nat.le_of_ble_eq_true rfl⟩ rfl hl (Nat.le_of_ble_eq_true rfl) ⟨show cells + 1 ≤ 609960 by omega, show slots + 6 ≤ 7266223 by omega⟩ dL_law_626 (fun H locs hB hS1 hz hkk => ?_)
  have hT := lt_x hX hM hx0 hm0 hdj hoL hoM hO hob hB hkk hS1
  obtain ⟨ly, L, ad, ly', L', ad', hX, hM, hx0, hm0, hdj, hoL, hoM, hO, hob, hS⟩ := hT
  have hLb := hX.2.2.1
  have hLbM := hM.2.2.1
  have hz0 : ∀ q, H.size ≤ q → bA E q := fun q z => by show E.2 0 ≤ q; rw [hE0]; exact Nat.le_trans hS.1 z
  refine lv_istore (lv' := [(5, .int (nI 2)), (4, .int (nI ii)), (0, .ref bb), (1, .ref x), (2, .ref mm), (3, .ref out)]) hx hb dL_law_629 hl (by decide) rfl (fun ls hl => ?_)
  refine lv_aload_n hx hb dL_law_631 rfl (lv_at hl 4 rfl) ?_
  refine lv_aload_n hx hb dL_law_632 rfl (lv_at hl 2 rfl) ?_
  refine lv_iload hx hb dL_law_633 (lv_at hl 1 rfl) ?_
  refine lv_iconstN hx hb 1 dL_law_635 (by decide) ?_
  refine lv_iaddN hx hb dL_law_636 ?_
  refine lw_sld hx hb hXs hbl hbb hS (show ii + 1 < Ln by omega) hLn dL_law_637 ?_
  rw [hq1]
  have hMt := mX7_buff_b2 l hM i hi hc
  rw [hm0] at hMt
  refine mu_V (As := [.int (nI i)]) (h0 := mm) (rest := []) (v := nI 0) hx hb hml hown hC hS hAb hMt (fun q h => h.elim (hLbM q) (hz0 q)) kV_L_119 ⟨rfl, rfl⟩ ⟨Nat.le_of_ble_eq_true rfl, Nat.le_of_ble_eq_true rfl⟩ (by rw [← hm0]; exact hM.1.recv hC cM_0 rfl) rfl hl (Nat.le_of_ble_eq_true rfl) ⟨show cells + 1 + 0 ≤ 609960 by omega, show slots + 6 + 0 ≤ 7266223 by omega⟩ dL_law_638 (fun H locs hB hS1 hz hkk => ?_)
  have hT := lt_m hX hM hx0 hm0 hdj hoL hoM hO hob ⟨L', ly', ad', hB, hm0, fun q h => Or.inl h⟩ hkk hS1
  obtain ⟨ly, L, ad, ly', L', ad', hX, hM, hx0, hm0, hdj, hoL, hoM, hO, hob, hS⟩ := hT
  have hLb := hX.2.2.1
  have hLbM := hM.2.2.1
  have hz0 : ∀ q, H.size ≤ q → bA E q := fun q z => by show E.2 0 ≤ q; rw [hE0]; exact Nat.le_trans hS.1 z
  refine lv_istore (lv' := [(6, .int (nI 0)), (5, .int (nI 2)), (4, .int (nI ii)), (0, .ref bb), (1, .ref x), (2, .ref mm), (3, .ref out)]) hx hb dL_law_641 hl (by decide) rfl (fun ls hl => ?_)
  refine lv_aload_n hx hb dL_law_643 rfl (lv_at hl 5 rfl) ?_
  have hMt := mX7_thrown l hM
  rw [hm0] at hMt
  refine ro_V (As := []) (h0 := mm) (rest := []) (v := nI 2) hx hb hml hown hC hS hAb hMt kV_L_98 ⟨rfl, rfl⟩ ⟨Nat.le_of_ble_eq_true rfl, Nat.le_of_ble_eq_true rfl⟩ (by rw [← hm0]; exact hM.1.recv hC cM_0 rfl) rfl hl (Nat.le_of_ble_eq_true rfl) ⟨show cells + 1 + 0 ≤ 609960 by omega, show slots + 6 + 0 ≤ 7266223 by omega⟩ dL_law_644 ?_
  refine lv_iload hx hb dL_law_647 (lv_at hl 1 rfl) ?_
  refine lv_icmp_eq (tgt := 654) hx hb dL_law_649 (by decide) (fun _ => ?_) (fun c9 => absurd rfl c9)
  refine lv_iload hx hb dL_law_654 (lv_at hl 1 rfl) ?_
  have hT : LT E s.heap x mm out _ _ _ _ H locs := ⟨ly, L, ad, ly', L', ad', hX, hM, hx0, hm0, hdj, hoL, hoM, hO, hob, hS⟩
  refine lv_if_ne (tgt := 671) hx hb dL_law_656 (by decide) (fun _ => ?_) (fun c9 => absurd c9 (by decide))
  refine lv_goto (tgt := 1820) hx hb dL_law_671 (by decide) ?_
  refine W.widen (k := cells + 1100) (n := slots + 14000) (by omega) (by omega) ?_
  exact kk _ _ _ _ _ _ hT (lv_sub hl [2, 3, 4, 5, 6] rfl)
set_option maxHeartbeats 4000000 in
set_option maxRecDepth 100000 in
theorem lc_clear_g (C0 : LC p l s m co E bb Ln xs) {c : Cy} {th : Int32} {v0 : Int64} {H : Heap} {locs : List Loc} {x mm out : Nat} (hT : LT E s.heap x mm out c c th v0 H locs) {ii : Nat} (hii : ii + 7 ≤ Ln) {cells slots : Nat} (hcs : cells + 1100 ≤ 609960 ∧ slots + 14000 ≤ 7266223) {ls : Array Slot} (hl : lv_has ls 9 [(4, .int (nI ii)), (0, .ref bb), (1, .ref x), (2, .ref mm), (3, .ref out)]) (kk : KK p l e s m below meth co bb E Q x mm out ii cells slots) (i : Nat) (hq1 : xs (ii + 1) = nI i) (hi : i < c.R 10 0) : W p l e room_1 s m #[Value.ref bb] below meth co H locs cells slots Q (F0 m 674 ls []) := by
  obtain ⟨hx, hb, hml, hown, hC, hNc, hXs, hbl, hE0, hst, hLn⟩ := C0
  have hAb : ∀ q, bA E q → bA E q := fun _ h => h
  have hbb : ¬ bA E bb := by show ¬ E.2 0 ≤ bb; rw [hE0]; exact Nat.not_le.mpr hbl
  obtain ⟨ly, L, ad, ly', L', ad', hX, hM, hx0, hm0, hdj, hoL, hoM, hO, hob, hS⟩ := hT
  have hLb := hX.2.2.1
  have hLbM := hM.2.2.1
  have hz0 : ∀ q, H.size ≤ q → bA E q := fun q z => by show E.2 0 ≤ q; rw [hE0]; exact Nat.le_trans hS.1 z
  refine lv_aload_n hx hb dL_law_674 rfl (lv_at hl 2 rfl) ?_
  refine lv_aload_n hx hb dL_law_675 rfl (lv_at hl 1 rfl) ?_
  refine lv_iload hx hb dL_law_676 (lv_at hl 0 rfl) ?_
  refine lv_iconstN hx hb 1 dL_law_678 (by decide) ?_
  refine lv_iaddN hx hb dL_law_679 ?_
  refine lw_sld hx hb hXs hbl hbb hS (show ii + 1 < Ln by omega) hLn dL_law_680 ?_
  rw [hq1]
  refine lv_aload_n hx hb dL_law_681 rfl (lv_at hl 4 rfl) ?_
  have hMt := mL_clear_g l hX hO hoL hob i hi
  rw [hx0] at hMt
  refine lw_S (As := [.ref x, .int (nI i), .ref out]) (rest := []) hx hb hml hown hC hNc hS hAb hMt (fun q h => h.elim (hLb q) (fun h => h.elim (fun h => by rw [h]; exact hob) (hz0 q))) kW_L_120 ⟨rfl, rfl⟩ ⟨Nat.le_of_ble_eq_true rfl, Nat.le_of_ble_eq_true rfl⟩ rfl hl (Nat.le_of_ble_eq_true rfl) ⟨show cells + 0 ≤ 609960 by omega, show slots + 0 ≤ 7266223 by omega⟩ dL_law_682 (fun H locs hB hS1 hz hkk => ?_)
  have hT := lt_x hX hM hx0 hm0 hdj hoL hoM hO hob hB hkk hS1
  obtain ⟨ly, L, ad, ly', L', ad', hX, hM, hx0, hm0, hdj, hoL, hoM, hO, hob, hS⟩ := hT
  have hLb := hX.2.2.1
  have hLbM := hM.2.2.1
  have hz0 : ∀ q, H.size ≤ q → bA E q := fun q z => by show E.2 0 ≤ q; rw [hE0]; exact Nat.le_trans hS.1 z
  refine lv_istore (lv' := [(5, .int (nI 0)), (4, .int (nI ii)), (0, .ref bb), (1, .ref x), (2, .ref mm), (3, .ref out)]) hx hb dL_law_685 hl (by decide) rfl (fun ls hl => ?_)
  refine lv_aload_n hx hb dL_law_687 rfl (lv_at hl 4 rfl) ?_
  refine lv_aload_n hx hb dL_law_688 rfl (lv_at hl 2 rfl) ?_
  refine lv_iload hx hb dL_law_689 (lv_at hl 1 rfl) ?_
  refine lv_iconstN hx hb 1 dL_law_691 (by decide) ?_
  refine lv_iaddN hx hb dL_law_692 ?_
  refine lw_sld hx hb hXs hbl hbb hS (show ii + 1 < Ln by omega) hLn dL_law_693 ?_
  rw [hq1]
  have hMt := mX7_clear_g l hM i hi
  rw [hm0] at hMt
  refine mu_V (As := [.int (nI i)]) (h0 := mm) (rest := []) (v := clT c i (c.R 1 i)) hx hb hml hown hC hS hAb hMt (fun q h => h.elim (hLbM q) (hz0 q)) kV_L_122 ⟨rfl, rfl⟩ ⟨Nat.le_of_ble_eq_true rfl, Nat.le_of_ble_eq_true rfl⟩ (by rw [← hm0]; exact hM.1.recv hC cM_0 rfl) rfl hl (Nat.le_of_ble_eq_true rfl) ⟨show cells + 0 ≤ 609960 by omega, show slots + 0 ≤ 7266223 by omega⟩ dL_law_694 (fun H locs hB hS1 hz hkk => ?_)
  have hT := lt_m hX hM hx0 hm0 hdj hoL hoM hO hob ⟨L', ly', ad', hB, hm0, fun q h => Or.inl h⟩ hkk hS1
  obtain ⟨ly, L, ad, ly', L', ad', hX, hM, hx0, hm0, hdj, hoL, hoM, hO, hob, hS⟩ := hT
  have hLb := hX.2.2.1
  have hLbM := hM.2.2.1
  have hz0 : ∀ q, H.size ≤ q → bA E q := fun q z => by show E.2 0 ≤ q; rw [hE0]; exact Nat.le_trans hS.1 z
  refine lv_istore (lv' := [(6, .int (clT c i (c.R 1 i))), (5, .int (nI 0)), (4, .int (nI ii)), (0, .ref bb), (1, .ref x), (2, .ref mm), (3, .ref out)]) hx hb dL_law_697 hl (by decide) rfl (fun ls hl => ?_)
  refine lv_aload_n hx hb dL_law_699 rfl (lv_at hl 5 rfl) ?_
  have hMt := mX7_thrown l hM
  rw [hm0] at hMt
  refine ro_V (As := []) (h0 := mm) (rest := []) (v := nI 0) hx hb hml hown hC hS hAb hMt kV_L_98 ⟨rfl, rfl⟩ ⟨Nat.le_of_ble_eq_true rfl, Nat.le_of_ble_eq_true rfl⟩ (by rw [← hm0]; exact hM.1.recv hC cM_0 rfl) rfl hl (Nat.le_of_ble_eq_true rfl) ⟨show cells + 0 ≤ 609960 by omega, show slots + 0 ≤ 7266223 by omega⟩ dL_law_700 ?_
  refine lv_iload hx hb dL_law_703 (lv_at hl 1 rfl) ?_
  refine lv_icmp_eq (tgt := 710) hx hb dL_law_705 (by decide) (fun _ => ?_) (fun c9 => absurd rfl c9)
  refine lv_iload hx hb dL_law_710 (lv_at hl 1 rfl) ?_
  have hT : LT E s.heap x mm out _ _ _ _ H locs := ⟨ly, L, ad, ly', L', ad', hX, hM, hx0, hm0, hdj, hoL, hoM, hO, hob, hS⟩
  refine lv_if_ne (tgt := 727) hx hb dL_law_712 (by decide) (fun c9 => absurd (by decide) c9) (fun _ => ?_)
  refine lv_aload_n hx hb dL_law_715 rfl (lv_at hl 6 rfl) ?_
  refine lv_iconstN hx hb 0 dL_law_716 (by decide) ?_
  refine lw_lald hx hb hC hO dL_law_717 ?_
  refine lv_iload hx hb dL_law_718 (lv_at hl 0 rfl) ?_
  refine lv_i2l (v := (clT c i (c.R 1 i)).toInt64) hx hb dL_law_720 rfl ?_
  refine W.lcmp hx hb dL_law_721 ?_
  rw [lg_self]
  refine lv_if_eq (tgt := 727) hx hb dL_law_722 (by decide) (fun _ => ?_) (fun c9 => absurd rfl c9)
  refine lv_goto (tgt := 1820) hx hb dL_law_727 (by decide) ?_
  refine W.widen (k := cells + 1100) (n := slots + 14000) (by omega) (by omega) ?_
  exact kk _ _ _ _ _ _ hT (lv_sub hl [2, 3, 4, 5, 6] rfl)
set_option maxHeartbeats 4000000 in
set_option maxRecDepth 100000 in
theorem lc_clear_b1 (C0 : LC p l s m co E bb Ln xs) {c : Cy} {th : Int32} {v0 : Int64} {H : Heap} {locs : List Loc} {x mm out : Nat} (hT : LT E s.heap x mm out c c th v0 H locs) {ii : Nat} (hii : ii + 7 ≤ Ln) {cells slots : Nat} (hcs : cells + 1100 ≤ 609960 ∧ slots + 14000 ≤ 7266223) {ls : Array Slot} (hl : lv_has ls 9 [(4, .int (nI ii)), (0, .ref bb), (1, .ref x), (2, .ref mm), (3, .ref out)]) (kk : KK p l e s m below meth co bb E Q x mm out ii cells slots) (v : Int32) (hq1 : xs (ii + 1) = v) (hv : isInS v (nI 0) (nI (c.R 10 0) - nI 1) = false) : W p l e room_1 s m #[Value.ref bb] below meth co H locs cells slots Q (F0 m 674 ls []) := by
  obtain ⟨hx, hb, hml, hown, hC, hNc, hXs, hbl, hE0, hst, hLn⟩ := C0
  have hAb : ∀ q, bA E q → bA E q := fun _ h => h
  have hbb : ¬ bA E bb := by show ¬ E.2 0 ≤ bb; rw [hE0]; exact Nat.not_le.mpr hbl
  obtain ⟨ly, L, ad, ly', L', ad', hX, hM, hx0, hm0, hdj, hoL, hoM, hO, hob, hS⟩ := hT
  have hLb := hX.2.2.1
  have hLbM := hM.2.2.1
  have hz0 : ∀ q, H.size ≤ q → bA E q := fun q z => by show E.2 0 ≤ q; rw [hE0]; exact Nat.le_trans hS.1 z
  refine lv_aload_n hx hb dL_law_674 rfl (lv_at hl 2 rfl) ?_
  refine lv_aload_n hx hb dL_law_675 rfl (lv_at hl 1 rfl) ?_
  refine lv_iload hx hb dL_law_676 (lv_at hl 0 rfl) ?_
  refine lv_iconstN hx hb 1 dL_law_678 (by decide) ?_
  refine lv_iaddN hx hb dL_law_679 ?_
  refine lw_sld hx hb hXs hbl hbb hS (show ii + 1 < Ln by omega) hLn dL_law_680 ?_
  rw [hq1]
  refine lv_aload_n hx hb dL_law_681 rfl (lv_at hl 4 rfl) ?_
  have hMt := mL_clear_b1 l hst hX hO hoL hob v hv
  rw [hx0] at hMt
  refine lw_S (As := [.ref x, .int v, .ref out]) (rest := []) hx hb hml hown hC hNc hS hAb hMt (fun q h => h.elim (hLb q) (fun h => h.elim (fun h => by rw [h]; exact hob) (hz0 q))) kW_L_120 ⟨rfl, rfl⟩ ⟨Nat.le_of_ble_eq_true rfl, Nat.le_of_ble_eq_true rfl⟩ rfl hl (Nat.le_of_ble_eq_true rfl) ⟨show cells + 1 ≤ 609960 by omega, show slots + 6 ≤ 7266223 by omega⟩ dL_law_682 (fun H locs hB hS1 hz hkk => ?_)
  have hT := lt_x hX hM hx0 hm0 hdj hoL hoM hO hob hB hkk hS1
  obtain ⟨ly, L, ad, ly', L', ad', hX, hM, hx0, hm0, hdj, hoL, hoM, hO, hob, hS⟩ := hT
  have hLb := hX.2.2.1
  have hLbM := hM.2.2.1
  have hz0 : ∀ q, H.size ≤ q → bA E q := fun q z => by show E.2 0 ≤ q; rw [hE0]; exact Nat.le_trans hS.1 z
  refine lv_istore (lv' := [(5, .int (nI 1)), (4, .int (nI ii)), (0, .ref bb), (1, .ref x), (2, .ref mm), (3, .ref out)]) hx hb dL_law_685 hl (by decide) rfl (fun ls hl => ?_)
  refine lv_aload_n hx hb dL_law_687 rfl (lv_at hl 4 rfl) ?_
  refine lv_aload_n hx hb dL_law_688 rfl (lv_at hl 2 rfl) ?_
  refine lv_iload hx hb dL_law_689 (lv_at hl 1 rfl) ?_
  refine lv_iconstN hx hb 1 dL_law_691 (by decide) ?_
  refine lv_iaddN hx hb dL_law_692 ?_
  refine lw_sld hx hb hXs hbl hbb hS (show ii + 1 < Ln by omega) hLn dL_law_693 ?_
  rw [hq1]
  have hMt := mX7_clear_b1 l hM v hv
  rw [hm0] at hMt
  refine mu_V (As := [.int v]) (h0 := mm) (rest := []) (v := nI 0) hx hb hml hown hC hS hAb hMt (fun q h => h.elim (hLbM q) (hz0 q)) kV_L_122 ⟨rfl, rfl⟩ ⟨Nat.le_of_ble_eq_true rfl, Nat.le_of_ble_eq_true rfl⟩ (by rw [← hm0]; exact hM.1.recv hC cM_0 rfl) rfl hl (Nat.le_of_ble_eq_true rfl) ⟨show cells + 1 + 0 ≤ 609960 by omega, show slots + 6 + 0 ≤ 7266223 by omega⟩ dL_law_694 (fun H locs hB hS1 hz hkk => ?_)
  have hT := lt_m hX hM hx0 hm0 hdj hoL hoM hO hob ⟨L', ly', ad', hB, hm0, fun q h => Or.inl h⟩ hkk hS1
  obtain ⟨ly, L, ad, ly', L', ad', hX, hM, hx0, hm0, hdj, hoL, hoM, hO, hob, hS⟩ := hT
  have hLb := hX.2.2.1
  have hLbM := hM.2.2.1
  have hz0 : ∀ q, H.size ≤ q → bA E q := fun q z => by show E.2 0 ≤ q; rw [hE0]; exact Nat.le_trans hS.1 z
  refine lv_istore (lv' := [(6, .int (nI 0)), (5, .int (nI 1)), (4, .int (nI ii)), (0, .ref bb), (1, .ref x), (2, .ref mm), (3, .ref out)]) hx hb dL_law_697 hl (by decide) rfl (fun ls hl => ?_)
  refine lv_aload_n hx hb dL_law_699 rfl (lv_at hl 5 rfl) ?_
  have hMt := mX7_thrown l hM
  rw [hm0] at hMt
  refine ro_V (As := []) (h0 := mm) (rest := []) (v := nI 1) hx hb hml hown hC hS hAb hMt kV_L_98 ⟨rfl, rfl⟩ ⟨Nat.le_of_ble_eq_true rfl, Nat.le_of_ble_eq_true rfl⟩ (by rw [← hm0]; exact hM.1.recv hC cM_0 rfl) rfl hl (Nat.le_of_ble_eq_true rfl) ⟨show cells + 1 + 0 ≤ 609960 by omega, show slots + 6 + 0 ≤ 7266223 by omega⟩ dL_law_700 ?_
  refine lv_iload hx hb dL_law_703 (lv_at hl 1 rfl) ?_
  refine lv_icmp_eq (tgt := 710) hx hb dL_law_705 (by decide) (fun _ => ?_) (fun c9 => absurd rfl c9)
  refine lv_iload hx hb dL_law_710 (lv_at hl 1 rfl) ?_
  have hT : LT E s.heap x mm out _ _ _ _ H locs := ⟨ly, L, ad, ly', L', ad', hX, hM, hx0, hm0, hdj, hoL, hoM, hO, hob, hS⟩
  refine lv_if_ne (tgt := 727) hx hb dL_law_712 (by decide) (fun _ => ?_) (fun c9 => absurd c9 (by decide))
  refine lv_goto (tgt := 1820) hx hb dL_law_727 (by decide) ?_
  refine W.widen (k := cells + 1100) (n := slots + 14000) (by omega) (by omega) ?_
  exact kk _ _ _ _ _ _ hT (lv_sub hl [2, 3, 4, 5, 6] rfl)
set_option maxHeartbeats 4000000 in
set_option maxRecDepth 100000 in
theorem lc_sell_g (C0 : LC p l s m co E bb Ln xs) {c : Cy} {th : Int32} {v0 : Int64} {H : Heap} {locs : List Loc} {x mm out : Nat} (hT : LT E s.heap x mm out c c th v0 H locs) {ii : Nat} (hii : ii + 7 ≤ Ln) {cells slots : Nat} (hcs : cells + 1100 ≤ 609960 ∧ slots + 14000 ≤ 7266223) {ls : Array Slot} (hl : lv_has ls 9 [(4, .int (nI ii)), (0, .ref bb), (1, .ref x), (2, .ref mm), (3, .ref out)]) (kk : KK p l e s m below meth co bb E Q x mm out ii cells slots) (j : Nat) (hq1 : xs (ii + 1) = nI j) (hj : j < c.R 10 2) (hs : decide (0 < seenS c j) = true) : W p l e room_1 s m #[Value.ref bb] below meth co H locs cells slots Q (F0 m 730 ls []) := by
  obtain ⟨hx, hb, hml, hown, hC, hNc, hXs, hbl, hE0, hst, hLn⟩ := C0
  have hAb : ∀ q, bA E q → bA E q := fun _ h => h
  have hbb : ¬ bA E bb := by show ¬ E.2 0 ≤ bb; rw [hE0]; exact Nat.not_le.mpr hbl
  obtain ⟨ly, L, ad, ly', L', ad', hX, hM, hx0, hm0, hdj, hoL, hoM, hO, hob, hS⟩ := hT
  have hLb := hX.2.2.1
  have hLbM := hM.2.2.1
  have hz0 : ∀ q, H.size ≤ q → bA E q := fun q z => by show E.2 0 ≤ q; rw [hE0]; exact Nat.le_trans hS.1 z
  refine lv_aload_n hx hb dL_law_730 rfl (lv_at hl 2 rfl) ?_
  refine lv_aload_n hx hb dL_law_731 rfl (lv_at hl 1 rfl) ?_
  refine lv_iload hx hb dL_law_732 (lv_at hl 0 rfl) ?_
  refine lv_iconstN hx hb 1 dL_law_734 (by decide) ?_
  refine lv_iaddN hx hb dL_law_735 ?_
  refine lw_sld hx hb hXs hbl hbb hS (show ii + 1 < Ln by omega) hLn dL_law_736 ?_
  rw [hq1]
  refine lv_aload_n hx hb dL_law_737 rfl (lv_at hl 4 rfl) ?_
  have hMt := mL_sell_g l hX hO hoL hob j hj hs
  rw [hx0] at hMt
  refine lw_S (As := [.ref x, .int (nI j), .ref out]) (rest := []) hx hb hml hown hC hNc hS hAb hMt (fun q h => h.elim (hLb q) (fun h => h.elim (fun h => by rw [h]; exact hob) (hz0 q))) kW_L_123 ⟨rfl, rfl⟩ ⟨Nat.le_of_ble_eq_true rfl, Nat.le_of_ble_eq_true rfl⟩ rfl hl (Nat.le_of_ble_eq_true rfl) ⟨show cells + 0 ≤ 609960 by omega, show slots + 0 ≤ 7266223 by omega⟩ dL_law_738 (fun H locs hB hS1 hz hkk => ?_)
  have hT := lt_x hX hM hx0 hm0 hdj hoL hoM hO hob hB hkk hS1
  obtain ⟨ly, L, ad, ly', L', ad', hX, hM, hx0, hm0, hdj, hoL, hoM, hO, hob, hS⟩ := hT
  have hLb := hX.2.2.1
  have hLbM := hM.2.2.1
  have hz0 : ∀ q, H.size ≤ q → bA E q := fun q z => by show E.2 0 ≤ q; rw [hE0]; exact Nat.le_trans hS.1 z
  refine lv_istore (lv' := [(5, .int (nI 0)), (4, .int (nI ii)), (0, .ref bb), (1, .ref x), (2, .ref mm), (3, .ref out)]) hx hb dL_law_741 hl (by decide) rfl (fun ls hl => ?_)
  refine lv_aload_n hx hb dL_law_743 rfl (lv_at hl 4 rfl) ?_
  refine lv_aload_n hx hb dL_law_744 rfl (lv_at hl 2 rfl) ?_
  refine lv_iload hx hb dL_law_745 (lv_at hl 1 rfl) ?_
  refine lv_iconstN hx hb 1 dL_law_747 (by decide) ?_
  refine lv_iaddN hx hb dL_law_748 ?_
  refine lw_sld hx hb hXs hbl hbb hS (show ii + 1 < Ln by omega) hLn dL_law_749 ?_
  rw [hq1]
  have hMt := mX7_sell_g l hM j hj (by simpa using hs)
  rw [hm0] at hMt
  refine mu_V (As := [.int (nI j)]) (h0 := mm) (rest := []) (v := prS c j) hx hb hml hown hC hS hAb hMt (fun q h => h.elim (hLbM q) (hz0 q)) kV_L_125 ⟨rfl, rfl⟩ ⟨Nat.le_of_ble_eq_true rfl, Nat.le_of_ble_eq_true rfl⟩ (by rw [← hm0]; exact hM.1.recv hC cM_0 rfl) rfl hl (Nat.le_of_ble_eq_true rfl) ⟨show cells + 1 ≤ 609960 by omega, show slots + 4 ≤ 7266223 by omega⟩ dL_law_750 (fun H locs hB hS1 hz hkk => ?_)
  have hT := lt_m hX hM hx0 hm0 hdj hoL hoM hO hob ⟨L', ly', ad', hB, hm0, fun q h => Or.inl h⟩ hkk hS1
  obtain ⟨ly, L, ad, ly', L', ad', hX, hM, hx0, hm0, hdj, hoL, hoM, hO, hob, hS⟩ := hT
  have hLb := hX.2.2.1
  have hLbM := hM.2.2.1
  have hz0 : ∀ q, H.size ≤ q → bA E q := fun q z => by show E.2 0 ≤ q; rw [hE0]; exact Nat.le_trans hS.1 z
  refine lv_istore (lv' := [(6, .int (prS c j)), (5, .int (nI 0)), (4, .int (nI ii)), (0, .ref bb), (1, .ref x), (2, .ref mm), (3, .ref out)]) hx hb dL_law_753 hl (by decide) rfl (fun ls hl => ?_)
  refine lv_aload_n hx hb dL_law_755 rfl (lv_at hl 5 rfl) ?_
  have hMt := mX7_thrown l hM
  rw [hm0] at hMt
  refine ro_V (As := []) (h0 := mm) (rest := []) (v := nI 0) hx hb hml hown hC hS hAb hMt kV_L_98 ⟨rfl, rfl⟩ ⟨Nat.le_of_ble_eq_true rfl, Nat.le_of_ble_eq_true rfl⟩ (by rw [← hm0]; exact hM.1.recv hC cM_0 rfl) rfl hl (Nat.le_of_ble_eq_true rfl) ⟨show cells + 1 + 0 ≤ 609960 by omega, show slots + 4 + 0 ≤ 7266223 by omega⟩ dL_law_756 ?_
  refine lv_iload hx hb dL_law_759 (lv_at hl 1 rfl) ?_
  refine lv_icmp_eq (tgt := 766) hx hb dL_law_761 (by decide) (fun _ => ?_) (fun c9 => absurd rfl c9)
  refine lv_iload hx hb dL_law_766 (lv_at hl 1 rfl) ?_
  have hT : LT E s.heap x mm out _ _ _ _ H locs := ⟨ly, L, ad, ly', L', ad', hX, hM, hx0, hm0, hdj, hoL, hoM, hO, hob, hS⟩
  refine lv_if_ne (tgt := 783) hx hb dL_law_768 (by decide) (fun c9 => absurd (by decide) c9) (fun _ => ?_)
  refine lv_aload_n hx hb dL_law_771 rfl (lv_at hl 6 rfl) ?_
  refine lv_iconstN hx hb 0 dL_law_772 (by decide) ?_
  refine lw_lald hx hb hC hO dL_law_773 ?_
  refine lv_iload hx hb dL_law_774 (lv_at hl 0 rfl) ?_
  refine lv_i2l (v := (prS c j).toInt64) hx hb dL_law_776 rfl ?_
  refine W.lcmp hx hb dL_law_777 ?_
  rw [lg_self]
  refine lv_if_eq (tgt := 783) hx hb dL_law_778 (by decide) (fun _ => ?_) (fun c9 => absurd rfl c9)
  refine lv_goto (tgt := 1820) hx hb dL_law_783 (by decide) ?_
  refine W.widen (k := cells + 1100) (n := slots + 14000) (by omega) (by omega) ?_
  exact kk _ _ _ _ _ _ hT (lv_sub hl [2, 3, 4, 5, 6] rfl)
set_option maxHeartbeats 4000000 in
set_option maxRecDepth 100000 in
theorem lc_sell_b1 (C0 : LC p l s m co E bb Ln xs) {c : Cy} {th : Int32} {v0 : Int64} {H : Heap} {locs : List Loc} {x mm out : Nat} (hT : LT E s.heap x mm out c c th v0 H locs) {ii : Nat} (hii : ii + 7 ≤ Ln) {cells slots : Nat} (hcs : cells + 1100 ≤ 609960 ∧ slots + 14000 ≤ 7266223) {ls : Array Slot} (hl : lv_has ls 9 [(4, .int (nI ii)), (0, .ref bb), (1, .ref x), (2, .ref mm), (3, .ref out)]) (kk : KK p l e s m below meth co bb E Q x mm out ii cells slots) (v : Int32) (hq1 : xs (ii + 1) = v) (hv : isInS v (nI 0) (nI (c.R 10 2) - nI 1) = false) : W p l e room_1 s m #[Value.ref bb] below meth co H locs cells slots Q (F0 m 730 ls []) := by
  obtain ⟨hx, hb, hml, hown, hC, hNc, hXs, hbl, hE0, hst, hLn⟩ := C0
  have hAb : ∀ q, bA E q → bA E q := fun _ h => h
  have hbb : ¬ bA E bb := by show ¬ E.2 0 ≤ bb; rw [hE0]; exact Nat.not_le.mpr hbl
  obtain ⟨ly, L, ad, ly', L', ad', hX, hM, hx0, hm0, hdj, hoL, hoM, hO, hob, hS⟩ := hT
  have hLb := hX.2.2.1
  have hLbM := hM.2.2.1
  have hz0 : ∀ q, H.size ≤ q → bA E q := fun q z => by show E.2 0 ≤ q; rw [hE0]; exact Nat.le_trans hS.1 z
  refine lv_aload_n hx hb dL_law_730 rfl (lv_at hl 2 rfl) ?_
  refine lv_aload_n hx hb dL_law_731 rfl (lv_at hl 1 rfl) ?_
  refine lv_iload hx hb dL_law_732 (lv_at hl 0 rfl) ?_
  refine lv_iconstN hx hb 1 dL_law_734 (by decide) ?_
  refine lv_iaddN hx hb dL_law_735 ?_
  refine lw_sld hx hb hXs hbl hbb hS (show ii + 1 < Ln by omega) hLn dL_law_736 ?_
  rw [hq1]
  refine lv_aload_n hx hb dL_law_737 rfl (lv_at hl 4 rfl) ?_
  have hMt := mL_sell_b1 l hst hX hO hoL hob v hv
  rw [hx0] at hMt
  refine lw_S (As := [.ref x, .int v, .ref out]) (rest := []) hx hb hml hown hC hNc hS hAb hMt (fun q h => h.elim (hLb q) (fun h => h.elim (fun h => by rw [h]; exact hob) (hz0 q))) kW_L_123 ⟨rfl, rfl⟩ ⟨Nat.le_of_ble_eq_true rfl, Nat.le_of_ble_eq_true rfl⟩ rfl hl (Nat.le_of_ble_eq_true rfl) ⟨show cells + 1 ≤ 609960 by omega, show slots + 6 ≤ 7266223 by omega⟩ dL_law_738 (fun H locs hB hS1 hz hkk => ?_)
  have hT := lt_x hX hM hx0 hm0 hdj hoL hoM hO hob hB hkk hS1
  obtain ⟨ly, L, ad, ly', L', ad', hX, hM, hx0, hm0, hdj, hoL, hoM, hO, hob, hS⟩ := hT
  have hLb := hX.2.2.1
  have hLbM := hM.2.2.1
  have hz0 : ∀ q, H.size ≤ q → bA E q := fun q z => by show E.2 0 ≤ q; rw [hE0]; exact Nat.le_trans hS.1 z
  refine lv_istore (lv' := [(5, .int (nI 1)), (4, .int (nI ii)), (0, .ref bb), (1, .ref x), (2, .ref mm), (3, .ref out)]) hx hb dL_law_741 hl (by decide) rfl (fun ls hl => ?_)
  refine lv_aload_n hx hb dL_law_743 rfl (lv_at hl 4 rfl) ?_
  refine lv_aload_n hx hb dL_law_744 rfl (lv_at hl 2 rfl) ?_
  refine lv_iload hx hb dL_law_745 (lv_at hl 1 rfl) ?_
  refine lv_iconstN hx hb 1 dL_law_747 (by decide) ?_
  refine lv_iaddN hx hb dL_law_748 ?_
  refine lw_sld hx hb hXs hbl hbb hS (show ii + 1 < Ln by omega) hLn dL_law_749 ?_
  rw [hq1]
  have hMt := mX7_sell_b1 l hM v hv
  rw [hm0] at hMt
  refine mu_V (As := [.int v]) (h0 := mm) (rest := []) (v := nI 0) hx hb hml hown hC hS hAb hMt (fun q h => h.elim (hLbM q) (hz0 q)) kV_L_125 ⟨rfl, rfl⟩ ⟨Nat.le_of_ble_eq_true rfl, Nat.le_of_ble_eq_true rfl⟩ (by rw [← hm0]; exact hM.1.recv hC cM_0 rfl) rfl hl (Nat.le_of_ble_eq_true rfl) ⟨show cells + 1 + 0 ≤ 609960 by omega, show slots + 6 + 0 ≤ 7266223 by omega⟩ dL_law_750 (fun H locs hB hS1 hz hkk => ?_)
  have hT := lt_m hX hM hx0 hm0 hdj hoL hoM hO hob ⟨L', ly', ad', hB, hm0, fun q h => Or.inl h⟩ hkk hS1
  obtain ⟨ly, L, ad, ly', L', ad', hX, hM, hx0, hm0, hdj, hoL, hoM, hO, hob, hS⟩ := hT
  have hLb := hX.2.2.1
  have hLbM := hM.2.2.1
  have hz0 : ∀ q, H.size ≤ q → bA E q := fun q z => by show E.2 0 ≤ q; rw [hE0]; exact Nat.le_trans hS.1 z
  refine lv_istore (lv' := [(6, .int (nI 0)), (5, .int (nI 1)), (4, .int (nI ii)), (0, .ref bb), (1, .ref x), (2, .ref mm), (3, .ref out)]) hx hb dL_law_753 hl (by decide) rfl (fun ls hl => ?_)
  refine lv_aload_n hx hb dL_law_755 rfl (lv_at hl 5 rfl) ?_
  have hMt := mX7_thrown l hM
  rw [hm0] at hMt
  refine ro_V (As := []) (h0 := mm) (rest := []) (v := nI 1) hx hb hml hown hC hS hAb hMt kV_L_98 ⟨rfl, rfl⟩ ⟨Nat.le_of_ble_eq_true rfl, Nat.le_of_ble_eq_true rfl⟩ (by rw [← hm0]; exact hM.1.recv hC cM_0 rfl) rfl hl (Nat.le_of_ble_eq_true rfl) ⟨show cells + 1 + 0 ≤ 609960 by omega, show slots + 6 + 0 ≤ 7266223 by omega⟩ dL_law_756 ?_
  refine lv_iload hx hb dL_law_759 (lv_at hl 1 rfl) ?_
  refine lv_icmp_eq (tgt := 766) hx hb dL_law_761 (by decide) (fun _ => ?_) (fun c9 => absurd rfl c9)
  refine lv_iload hx hb dL_law_766 (lv_at hl 1 rfl) ?_
  have hT : LT E s.heap x mm out _ _ _ _ H locs := ⟨ly, L, ad, ly', L', ad', hX, hM, hx0, hm0, hdj, hoL, hoM, hO, hob, hS⟩
  refine lv_if_ne (tgt := 783) hx hb dL_law_768 (by decide) (fun _ => ?_) (fun c9 => absurd c9 (by decide))
  refine lv_goto (tgt := 1820) hx hb dL_law_783 (by decide) ?_
  refine W.widen (k := cells + 1100) (n := slots + 14000) (by omega) (by omega) ?_
  exact kk _ _ _ _ _ _ hT (lv_sub hl [2, 3, 4, 5, 6] rfl)
set_option maxHeartbeats 4000000 in
set_option maxRecDepth 100000 in
theorem lc_sell_b2 (C0 : LC p l s m co E bb Ln xs) {c : Cy} {th : Int32} {v0 : Int64} {H : Heap} {locs : List Loc} {x mm out : Nat} (hT : LT E s.heap x mm out c c th v0 H locs) {ii : Nat} (hii : ii + 7 ≤ Ln) {cells slots : Nat} (hcs : cells + 1100 ≤ 609960 ∧ slots + 14000 ≤ 7266223) {ls : Array Slot} (hl : lv_has ls 9 [(4, .int (nI ii)), (0, .ref bb), (1, .ref x), (2, .ref mm), (3, .ref out)]) (kk : KK p l e s m below meth co bb E Q x mm out ii cells slots) (j : Nat) (hq1 : xs (ii + 1) = nI j) (hj : j < c.R 10 2) (hs : decide (0 < seenS c j) = false) : W p l e room_1 s m #[Value.ref bb] below meth co H locs cells slots Q (F0 m 730 ls []) := by
  obtain ⟨hx, hb, hml, hown, hC, hNc, hXs, hbl, hE0, hst, hLn⟩ := C0
  have hAb : ∀ q, bA E q → bA E q := fun _ h => h
  have hbb : ¬ bA E bb := by show ¬ E.2 0 ≤ bb; rw [hE0]; exact Nat.not_le.mpr hbl
  obtain ⟨ly, L, ad, ly', L', ad', hX, hM, hx0, hm0, hdj, hoL, hoM, hO, hob, hS⟩ := hT
  have hLb := hX.2.2.1
  have hLbM := hM.2.2.1
  have hz0 : ∀ q, H.size ≤ q → bA E q := fun q z => by show E.2 0 ≤ q; rw [hE0]; exact Nat.le_trans hS.1 z
  refine lv_aload_n hx hb dL_law_730 rfl (lv_at hl 2 rfl) ?_
  refine lv_aload_n hx hb dL_law_731 rfl (lv_at hl 1 rfl) ?_
  refine lv_iload hx hb dL_law_732 (lv_at hl 0 rfl) ?_
  refine lv_iconstN hx hb 1 dL_law_734 (by decide) ?_
  refine lv_iaddN hx hb dL_law_735 ?_
  refine lw_sld hx hb hXs hbl hbb hS (show ii + 1 < Ln by omega) hLn dL_law_736 ?_
  rw [hq1]
  refine lv_aload_n hx hb dL_law_737 rfl (lv_at hl 4 rfl) ?_
  have hMt := mL_sell_b2 l hst hX hO hoL hob j hj hs
  rw [hx0] at hMt
  refine lw_S (As := [.ref x, .int (nI j), .ref out]) (rest := []) hx hb hml hown hC hNc hS hAb hMt (fun q h => h.elim (hLb q) (fun h => h.elim (fun h => by rw [h]; exact hob) (hz0 q))) kW_L_123 ⟨rfl, rfl⟩ ⟨Nat.le_of_ble_eq_true rfl, Nat.le_of_ble_eq_true rfl⟩ rfl hl (Nat.le_of_ble_eq_true rfl) ⟨show cells + 1 ≤ 609960 by omega, show slots + 6 ≤ 7266223 by omega⟩ dL_law_738 (fun H locs hB hS1 hz hkk => ?_)
  have hT := lt_x hX hM hx0 hm0 hdj hoL hoM hO hob hB hkk hS1
  obtain ⟨ly, L, ad, ly', L', ad', hX, hM, hx0, hm0, hdj, hoL, hoM, hO, hob, hS⟩ := hT
  have hLb := hX.2.2.1
  have hLbM := hM.2.2.1
  have hz0 : ∀ q, H.size ≤ q → bA E q := fun q z => by show E.2 0 ≤ q; rw [hE0]; exact Nat.le_trans hS.1 z
  refine lv_istore (lv' := [(5, .int (nI 2)), (4, .int (nI ii)), (0, .ref bb), (1, .ref x), (2, .ref mm), (3, .ref out)]) hx hb dL_law_741 hl (by decide) rfl (fun ls hl => ?_)
  refine lv_aload_n hx hb dL_law_743 rfl (lv_at hl 4 rfl) ?_
  refine lv_aload_n hx hb dL_law_744 rfl (lv_at hl 2 rfl) ?_
  refine lv_iload hx hb dL_law_745 (lv_at hl 1 rfl) ?_
  refine lv_iconstN hx hb 1 dL_law_747 (by decide) ?_
  refine lv_iaddN hx hb dL_law_748 ?_
  refine lw_sld hx hb hXs hbl hbb hS (show ii + 1 < Ln by omega) hLn dL_law_749 ?_
  rw [hq1]
  have hMt := mX7_sell_b2 l hM j hj (by have h9 := of_decide_eq_false hs; omega)
  rw [hm0] at hMt
  refine mu_V (As := [.int (nI j)]) (h0 := mm) (rest := []) (v := nI 0) hx hb hml hown hC hS hAb hMt (fun q h => h.elim (hLbM q) (hz0 q)) kV_L_125 ⟨rfl, rfl⟩ ⟨Nat.le_of_ble_eq_true rfl, Nat.le_of_ble_eq_true rfl⟩ (by rw [← hm0]; exact hM.1.recv hC cM_0 rfl) rfl hl (Nat.le_of_ble_eq_true rfl) ⟨show cells + 1 + 0 ≤ 609960 by omega, show slots + 6 + 0 ≤ 7266223 by omega⟩ dL_law_750 (fun H locs hB hS1 hz hkk => ?_)
  have hT := lt_m hX hM hx0 hm0 hdj hoL hoM hO hob ⟨L', ly', ad', hB, hm0, fun q h => Or.inl h⟩ hkk hS1
  obtain ⟨ly, L, ad, ly', L', ad', hX, hM, hx0, hm0, hdj, hoL, hoM, hO, hob, hS⟩ := hT
  have hLb := hX.2.2.1
  have hLbM := hM.2.2.1
  have hz0 : ∀ q, H.size ≤ q → bA E q := fun q z => by show E.2 0 ≤ q; rw [hE0]; exact Nat.le_trans hS.1 z
  refine lv_istore (lv' := [(6, .int (nI 0)), (5, .int (nI 2)), (4, .int (nI ii)), (0, .ref bb), (1, .ref x), (2, .ref mm), (3, .ref out)]) hx hb dL_law_753 hl (by decide) rfl (fun ls hl => ?_)
  refine lv_aload_n hx hb dL_law_755 rfl (lv_at hl 5 rfl) ?_
  have hMt := mX7_thrown l hM
  rw [hm0] at hMt
  refine ro_V (As := []) (h0 := mm) (rest := []) (v := nI 2) hx hb hml hown hC hS hAb hMt kV_L_98 ⟨rfl, rfl⟩ ⟨Nat.le_of_ble_eq_true rfl, Nat.le_of_ble_eq_true rfl⟩ (by rw [← hm0]; exact hM.1.recv hC cM_0 rfl) rfl hl (Nat.le_of_ble_eq_true rfl) ⟨show cells + 1 + 0 ≤ 609960 by omega, show slots + 6 + 0 ≤ 7266223 by omega⟩ dL_law_756 ?_
  refine lv_iload hx hb dL_law_759 (lv_at hl 1 rfl) ?_
  refine lv_icmp_eq (tgt := 766) hx hb dL_law_761 (by decide) (fun _ => ?_) (fun c9 => absurd rfl c9)
  refine lv_iload hx hb dL_law_766 (lv_at hl 1 rfl) ?_
  have hT : LT E s.heap x mm out _ _ _ _ H locs := ⟨ly, L, ad, ly', L', ad', hX, hM, hx0, hm0, hdj, hoL, hoM, hO, hob, hS⟩
  refine lv_if_ne (tgt := 783) hx hb dL_law_768 (by decide) (fun _ => ?_) (fun c9 => absurd c9 (by decide))
  refine lv_goto (tgt := 1820) hx hb dL_law_783 (by decide) ?_
  refine W.widen (k := cells + 1100) (n := slots + 14000) (by omega) (by omega) ?_
  exact kk _ _ _ _ _ _ hT (lv_sub hl [2, 3, 4, 5, 6] rfl)
end CAS
