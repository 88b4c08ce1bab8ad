/-! contracts of methods that only read: the heap is H before and behind -/
abbrev PcR (av : List Value) (E : En) (H : Heap) : Array Value → State → Prop := va_Pc av (fun U => U.heap = H ∧ Cs E U)
abbrev noA : Nat → Prop := fun _ => False
abbrev QiR (v : Int32) (H : Heap) : Array Value → State → Outcome → State → Prop := va_Qi (fun (r : Int32) (_ : Unit) => r = v) (fun _ t => t.heap = H) noA
abbrev QlR (v : Int64) (H : Heap) : Array Value → State → Outcome → State → Prop := va_Ql (fun (r : Int64) (_ : Unit) => r = v) (fun _ t => t.heap = H) noA
/-- a reference or null -/
abbrev QrR (v : Option Nat) (H : Heap) : Array Value → State → Outcome → State → Prop := fun _ st oc t => oc = .returned (some (va_rf v)) ∧ t.heap = H ∧ va_F noA st t
abbrev RoI (l : Launch) (y : MethodName) (b : ByteArray) (n : Nat) (ret : FieldType) (rm : Room) (av : List Value) (E : En) (H : Heap) (v : Int32) : Prop := Met l y [.code y b n (some ret)] rm (PcR av E H) (QiR v H) 0 0 noA
abbrev RoL (l : Launch) (y : MethodName) (b : ByteArray) (n : Nat) (rm : Room) (av : List Value) (E : En) (H : Heap) (v : Int64) : Prop := Met l y [.code y b n (some .long)] rm (PcR av E H) (QlR v H) 0 0 noA
abbrev RoR (l : Launch) (y : MethodName) (b : ByteArray) (n : Nat) (ret : FieldType) (rm : Room) (av : List Value) (E : En) (H : Heap) (v : Option Nat) : Prop := Met l y [.code y b n (some ret)] rm (PcR av E H) (QrR v H) 0 0 noA
theorem PcR.blind {av : List Value} {E : En} {H : Heap} : FrameBlind (PcR av E H) := fun a U g mk q => by
  obtain ⟨q0, q1, q2⟩ := q
  exact ⟨q0, q1, q2.calling g mk a⟩
section ROA
variable {l : Launch} {E : En} {y : MethodName} {rm : Room} {Qc : Array Value → State → Outcome → State → Prop} {free : Addr → Prop} {cc : ByteArray} {maxL : Nat} {ret : Option FieldType} {av : List Value} {H : Heap} {mc ms : Nat}
/-- the way into a body -/
theorem ro_of (hy : plainName y.cls = true) (hlen : (lg_sl av).length ≤ maxL)
    (body : ∀ (p : Program) (e : Env) (s : State) (m : MethodId) (below : List Frame) (meth : Method) (c : Code) (ls : Array Slot), p.tables.exec = Jvm.exec → c.code = cc → meth.sig.returnType = ret → c.maxLocals = maxL → s.vm.findClass y.cls = some m.cls → meth.locks = false → meth.name = y.name → Cs E s → s.heap = H → lv_has ls maxL (lv_args 0 av) →
      W p l e rm s m av.toArray below meth c H [] 0 0 (MQ below Qc av.toArray s mc ms free) (F0 m 0 ls [])) : Met l y [.code y cc maxL ret] rm (PcR av E H) Qc mc ms free := by
  refine Met.ofW (cc := cc) (maxL := maxL) (ret := ret) hy rfl ?_
  intro p e s m args below meth c s₁ B hml hv
  obtain ⟨rfl, hU, hC⟩ := hv
  have hl := lv_entry av (n := maxL) hlen
  rw [lg_entry_eq]
  have h := body p e s m below meth c _ B.exec B.bytes B.returns hml (findClass_of_methodNamed B.named) B.notSynchronized (name_of_methodNamed B.named B.method).1 hC hU hl
  rw [hU]
  exact h
end ROA
section ROB
variable {p : Program} {l : Launch} {e : Env} {R : Room} {s : State} {m : MethodId} {args : Array Value} {below : List Frame} {meth : Method} {c : Code} {H : Heap} {locs : List Loc} {cells slots : Nat} {Q : State → Prop}
variable {cc : ByteArray} {pc nL : Nat} {ls : Array Slot} {rest : List Value} {E : En} {L : List Nat} {ct : Nat → Nat → Option va_E} {ad : Nat → Nat → Nat} {A : Nat → Prop}
variable {y : MethodName} {b : ByteArray} {maxL n index : Nat} {rt : FieldType} {rm : Room} {own C : String}
theorem run_ro {a : Array Value} {g : JFrame} {mc ms : Nat} {Qa : State → Outcome → State → Prop} (hr : va_Run p l e R s m args below meth c H locs cells slots 0 0 g rest Qa noA) (kk : ∀ (v : Option Value) (st₀ t : State), st₀.heap = H → s.vm.Alike t.vm → Qa st₀ (.returned v) t → t.heap = H ∧ W p l e R s m args below meth c H locs cells slots Q { g with pc := g.pc + 3, stack := v.toList ++ rest }) : W p l e R s m args below meth c H locs cells slots Q g := by
  intro T hT X
  obtain ⟨v, st₀, t, T', L, h0, X', hL, e1, e2, hq, st⟩ := hr T hT X
  have hL0 : L = [] := List.eq_nil_iff_forall_not_mem.mpr fun q hq => hL q hq
  subst hL0
  rw [List.append_nil] at X'
  obtain ⟨k1, k2⟩ := kk v st₀ t h0 (by rw [← e2]; exact X'.warmed.alike) hq
  obtain ⟨t2, a1, b1⟩ := k2 T' (e1.trans k1) X'
  exact ⟨t2, st t2 a1, b1⟩
/-- an instance method that only reads and answers an int -/
theorem ro_V {As : List Value} {h0 : Nat} {v : Int32} {nn : Nat} (hx : p.tables.exec = Jvm.exec) (hb : c.code = cc) (hml : c.maxLocals = nL) (hown : s.vm.findClass own = some m.cls) (hC : Cs E s) (hS : va_S A s.heap H locs) (hAb : ∀ q, A q → bA E q)
    (hM : RoI l y b maxL rt rm (.ref h0 :: As) E H v) (hK : KV own index C y b maxL (some rt) nn) (hrm : rm.cells = 0 ∧ rm.slots = 0) (hR : rm.frames + 1 ≤ R.frames ∧ 8 + (maxL + 11) + rm.locals ≤ R.locals) (hrecv : ∃ cellB : Cell, H[h0]? = some cellB ∧ cellB.vm.isStatics = false ∧ s.vm.findClass C = some cellB.cls) (hn : As.length = nn) {lv : List (Nat × Value)} (hl : lv_has ls nL lv) (hr8 : (rest.map fun v => v.category).sum ≤ 8) (hc0 : cells ≤ R.cells ∧ slots ≤ R.slots) (hdg : decode cc pc = .ok (.invokevirtual index, 3))
    (kk : W p l e R s m args below meth c H locs cells slots Q (F0 m (pc + 3) ls (.int v :: rest))) : W p l e R s m args below meth c H locs cells slots Q (F0 m pc ls (As.reverse ++ .ref h0 :: rest)) := by
  have hts := hC.2.1.hts args
  refine run_ro (mc := 0) (ms := 0) (a := (Value.ref h0 :: As).toArray) (va_runV (As := As) (rest := rest) ⟨hx, hb, hml, hown, hts⟩ hM (cwV nn hts hK.1 rfl hrm.1 hrm.2 hK.2 hR) ⟨PcR.blind, hrecv, fun U hU hW => ⟨rfl, hU, hC.go hW hU hS hAb⟩⟩ rfl hn hl.1 rfl (lv_room hr8) hdg hc0) ?_
  intro w st₀ t h1 _ hq
  obtain ⟨⟨r, u, h2, h3, h4⟩, -⟩ := hq
  cases h2
  subst h3
  exact ⟨h4, kk⟩
theorem ro_S {As : List Value} {v : Int32} {nn : Nat} (hx : p.tables.exec = Jvm.exec) (hb : c.code = cc) (hml : c.maxLocals = nL) (hown : s.vm.findClass own = some m.cls) (hC : Cs E s) (hS : va_S A s.heap H locs) (hAb : ∀ q, A q → bA E q)
    (hM : RoI l y b maxL rt rm As E H v) (hK : KS own index y b maxL (some rt) nn) (hrm : rm.cells = 0 ∧ rm.slots = 0) (hR : rm.frames + 1 ≤ R.frames ∧ 8 + (maxL + 11) + rm.locals ≤ R.locals) (hn : As.length = nn) {lv : List (Nat × Value)} (hl : lv_has ls nL lv) (hr8 : (rest.map fun v => v.category).sum ≤ 8) (hc0 : cells ≤ R.cells ∧ slots ≤ R.slots) (hdg : decode cc pc = .ok (.invokestatic index, 3))
    (kk : W p l e R s m args below meth c H locs cells slots Q (F0 m (pc + 3) ls (.int v :: rest))) : W p l e R s m args below meth c H locs cells slots Q (F0 m pc ls (As.reverse ++ rest)) := by
  have hts := hC.2.1.hts args
  refine run_ro (mc := 0) (ms := 0) (a := As.toArray) (va_runS (As := As) (rest := rest) ⟨hx, hb, hml, hown, hts⟩ hM (va_cwS nn hts hK.1 rfl hrm.1 hrm.2 hK.2 hR) ⟨PcR.blind, fun U hU hW => ⟨rfl, hU, hC.go hW hU hS hAb⟩⟩ rfl hn hl.1 rfl (lv_room hr8) hdg hc0) ?_
  intro w st₀ t h1 _ hq
  obtain ⟨⟨r, u, h2, h3, h4⟩, -⟩ := hq
  cases h2
  subst h3
  exact ⟨h4, kk⟩
theorem ro_VL {As : List Value} {h0 : Nat} {v : Int64} {nn : Nat} (hx : p.tables.exec = Jvm.exec) (hb : c.code = cc) (hml : c.maxLocals = nL) (hown : s.vm.findClass own = some m.cls) (hC : Cs E s) (hS : va_S A s.heap H locs) (hAb : ∀ q, A q → bA E q)
    (hM : RoL l y b maxL rm (.ref h0 :: As) E H v) (hK : KV own index C y b maxL (some .long) nn) (hrm : rm.cells = 0 ∧ rm.slots = 0) (hR : rm.frames + 1 ≤ R.frames ∧ 8 + (maxL + 11) + rm.locals ≤ R.locals) (hrecv : ∃ cellB : Cell, H[h0]? = some cellB ∧ cellB.vm.isStatics = false ∧ s.vm.findClass C = some cellB.cls) (hn : As.length = nn) {lv : List (Nat × Value)} (hl : lv_has ls nL lv) (hr8 : (rest.map fun v => v.category).sum ≤ 8) (hc0 : cells ≤ R.cells ∧ slots ≤ R.slots) (hdg : decode cc pc = .ok (.invokevirtual index, 3))
    (kk : W p l e R s m args below meth c H locs cells slots Q (F0 m (pc + 3) ls (.long v :: rest))) : W p l e R s m args below meth c H locs cells slots Q (F0 m pc ls (As.reverse ++ .ref h0 :: rest)) := by
  have hts := hC.2.1.hts args
  refine run_ro (mc := 0) (ms := 0) (a := (Value.ref h0 :: As).toArray) (va_runV (As := As) (rest := rest) ⟨hx, hb, hml, hown, hts⟩ hM (cwV nn hts hK.1 rfl hrm.1 hrm.2 hK.2 hR) ⟨PcR.blind, hrecv, fun U hU hW => ⟨rfl, hU, hC.go hW hU hS hAb⟩⟩ rfl hn hl.1 rfl (lv_room hr8) hdg hc0) ?_
  intro w st₀ t h1 _ hq
  obtain ⟨⟨r, u, h2, h3, h4⟩, -⟩ := hq
  cases h2
  subst h3
  exact ⟨h4, kk⟩
theorem ro_SL {As : List Value} {v : Int64} {nn : Nat} (hx : p.tables.exec = Jvm.exec) (hb : c.code = cc) (hml : c.maxLocals = nL) (hown : s.vm.findClass own = some m.cls) (hC : Cs E s) (hS : va_S A s.heap H locs) (hAb : ∀ q, A q → bA E q)
    (hM : RoL l y b maxL rm As E H v) (hK : KS own index y b maxL (some .long) nn) (hrm : rm.cells = 0 ∧ rm.slots = 0) (hR : rm.frames + 1 ≤ R.frames ∧ 8 + (maxL + 11) + rm.locals ≤ R.locals) (hn : As.length = nn) {lv : List (Nat × Value)} (hl : lv_has ls nL lv) (hr8 : (rest.map fun v => v.category).sum ≤ 8) (hc0 : cells ≤ R.cells ∧ slots ≤ R.slots) (hdg : decode cc pc = .ok (.invokestatic index, 3))
    (kk : W p l e R s m args below meth c H locs cells slots Q (F0 m (pc + 3) ls (.long v :: rest))) : W p l e R s m args below meth c H locs cells slots Q (F0 m pc ls (As.reverse ++ rest)) := by
  have hts := hC.2.1.hts args
  refine run_ro (mc := 0) (ms := 0) (a := As.toArray) (va_runS (As := As) (rest := rest) ⟨hx, hb, hml, hown, hts⟩ hM (va_cwS nn hts hK.1 rfl hrm.1 hrm.2 hK.2 hR) ⟨PcR.blind, fun U hU hW => ⟨rfl, hU, hC.go hW hU hS hAb⟩⟩ rfl hn hl.1 rfl (lv_room hr8) hdg hc0) ?_
  intro w st₀ t h1 _ hq
  obtain ⟨⟨r, u, h2, h3, h4⟩, -⟩ := hq
  cases h2
  subst h3
  exact ⟨h4, kk⟩
theorem ro_VR {As : List Value} {h0 : Nat} {v : Option Nat} {nn : Nat} (hx : p.tables.exec = Jvm.exec) (hb : c.code = cc) (hml : c.maxLocals = nL) (hown : s.vm.findClass own = some m.cls) (hC : Cs E s) (hS : va_S A s.heap H locs) (hAb : ∀ q, A q → bA E q)
    (hM : RoR l y b maxL rt rm (.ref h0 :: As) E H v) (hK : KV own index C y b maxL (some rt) nn) (hrm : rm.cells = 0 ∧ rm.slots = 0) (hR : rm.frames + 1 ≤ R.frames ∧ 8 + (maxL + 11) + rm.locals ≤ R.locals) (hrecv : ∃ cellB : Cell, H[h0]? = some cellB ∧ cellB.vm.isStatics = false ∧ s.vm.findClass C = some cellB.cls) (hn : As.length = nn) {lv : List (Nat × Value)} (hl : lv_has ls nL lv) (hr8 : (rest.map fun v => v.category).sum ≤ 8) (hc0 : cells ≤ R.cells ∧ slots ≤ R.slots) (hdg : decode cc pc = .ok (.invokevirtual index, 3))
    (kk : W p l e R s m args below meth c H locs cells slots Q (F0 m (pc + 3) ls (va_rf v :: rest))) : W p l e R s m args below meth c H locs cells slots Q (F0 m pc ls (As.reverse ++ .ref h0 :: rest)) := by
  have hts := hC.2.1.hts args
  refine run_ro (mc := 0) (ms := 0) (a := (Value.ref h0 :: As).toArray) (va_runV (As := As) (rest := rest) ⟨hx, hb, hml, hown, hts⟩ hM (cwV nn hts hK.1 rfl hrm.1 hrm.2 hK.2 hR) ⟨PcR.blind, hrecv, fun U hU hW => ⟨rfl, hU, hC.go hW hU hS hAb⟩⟩ rfl hn hl.1 rfl (lv_room hr8) hdg hc0) ?_
  intro w st₀ t h1 _ hq
  obtain ⟨h2, h4, -⟩ := hq
  cases h2
  exact ⟨h4, kk⟩
/-- a receiver that is pictured -/
theorem PI.recv (h : PI E.1 L ct ad H) (hC : Cs E s) {k i ci N : Nat} {T : u_T} {fs : List Value} (he : ct k i = some (.inr (ci, fs))) (hc : vwCl[ci]? = some (C, T, N)) : ∃ cellB : Cell, H[ad k i]? = some cellB ∧ cellB.vm.isStatics = false ∧ s.vm.findClass C = some cellB.cls :=
  va_recv hC.1 (h.one he) (ci := ci) (q0 := 0) hc rfl
theorem ro_iret {v x : Int32} (hx : p.tables.exec = Jvm.exec) (hb : c.code = cc) (hr : meth.sig.returnType = some .int) (hlocks : meth.locks = false) (hH : s.heap = H) (hv : x = v) (hdg : decode cc pc = .ok (.ireturn, 1)) : W p l e R s m args below meth c H [] 0 0 (MQ below (QiR v H) args s 0 0 noA) (F0 m pc ls [.int x]) := by
  subst hv
  exact W.iret hx hb hr (fun t ht hW => ⟨⟨x, (), rfl, rfl, ht⟩, (va_S.rf (A := noA) (H0 := s.heap)).F (ht.trans hH.symm)⟩) (fun q hq => absurd hq List.not_mem_nil) hdg
theorem ro_zret {x : Int32} (hx : p.tables.exec = Jvm.exec) (hb : c.code = cc) (hr : meth.sig.returnType = some .boolean) (hlocks : meth.locks = false) (hH : s.heap = H) {bv : Bool} (hv : x = bI bv) (hdg : decode cc pc = .ok (.ireturn, 1)) : W p l e R s m args below meth c H [] 0 0 (MQ below (QiR (bI bv) H) args s 0 0 noA) (F0 m pc ls [.int x]) := by
  subst hv
  exact W.zret hx hb hr (bI_nar bv) (fun t ht hW => ⟨⟨_, (), rfl, rfl, ht⟩, (va_S.rf (A := noA) (H0 := s.heap)).F (ht.trans hH.symm)⟩) (fun q hq => absurd hq List.not_mem_nil) hdg
theorem ro_zretB {x : Int32} {b1 b2 : Bool} (hx : p.tables.exec = Jvm.exec) (hb : c.code = cc) (hr : meth.sig.returnType = some .boolean) (hlocks : meth.locks = false) (hH : s.heap = H) (h1 : x = bI b1) (hv : b1 = b2) (hdg : decode cc pc = .ok (.ireturn, 1)) : W p l e R s m args below meth c H [] 0 0 (MQ below (QiR (bI b2) H) args s 0 0 noA) (F0 m pc ls [.int x]) :=
  ro_zret hx hb hr hlocks hH (by rw [h1, hv]) hdg
theorem ro_lret {v x : Int64} (hx : p.tables.exec = Jvm.exec) (hb : c.code = cc) (hr : meth.sig.returnType = some .long) (hlocks : meth.locks = false) (hH : s.heap = H) (hv : x = v) (hdg : decode cc pc = .ok (.lreturn, 1)) : W p l e R s m args below meth c H [] 0 0 (MQ below (QlR v H) args s 0 0 noA) (F0 m pc ls [.long x]) := by
  subst hv
  exact W.lret hx hb hr (fun t ht hW => ⟨⟨x, (), rfl, rfl, ht⟩, (va_S.rf (A := noA) (H0 := s.heap)).F (ht.trans hH.symm)⟩) (fun q hq => absurd hq List.not_mem_nil) hdg
theorem ro_aret {v x : Option Nat} {nm : String} (hx : p.tables.exec = Jvm.exec) (hb : c.code = cc) (hr : meth.sig.returnType = some (.object nm)) (hlocks : meth.locks = false) (hH : s.heap = H) (hv : x = v) (hdg : decode cc pc = .ok (.areturn, 1)) : W p l e R s m args below meth c H [] 0 0 (MQ below (QrR v H) args s 0 0 noA) (F0 m pc ls [va_rf x]) := by
  subst hv
  refine W.aret hx hb hr (Or.inl ⟨_, rfl⟩) ?_ (fun t ht hW => ⟨rfl, ht, (va_S.rf (A := noA) (H0 := s.heap)).F (ht.trans hH.symm)⟩) (fun q hq => absurd hq List.not_mem_nil) hdg
  cases x with
  | none => exact Or.inl rfl
  | some y => exact Or.inr ⟨y, rfl⟩
end ROB
