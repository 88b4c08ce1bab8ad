/-! the law's rows: the city hidden, and arrays of the law's own -/
def fL (E : En) (Ks : List Nat) : Nat → Prop := fun q => bA E q ∧ q ∉ Ks
def CW (E : En) (x : Nat) (c : Cy) (Ks : List Nat) (H : Heap) : Prop := ∃ (ly : Ly) (L : List Nat) (ad : Nat → Nat → Nat), PX E c ly L ad H ∧ ad 0 0 = x ∧ (∀ q, q ∈ L → q ∉ Ks) ∧ (∀ q, q ∈ Ks → q < H.size)
def iA (E : En) (a n : Nat) (f : Nat → Int32) (H : Heap) : Prop := H[a]? = some (arrV (E.2 1) n (fun j => .int (f j)))
abbrev PcX (av : List Value) (E : En) (H : Heap) (bb Ln : Nat) (xs : Nat → Int32) : Array Value → State → Prop := va_Pc av (fun U => U.heap = H ∧ Cs E U ∧ va_X bb Ln xs U H ∧ bb < H.size)
theorem PcX.blind {av : List Value} {E : En} {H : Heap} {bb Ln : Nat} {xs : Nat → Int32} : FrameBlind (PcX av E H bb Ln xs) := fun a U g mk q => by
  obtain ⟨q0, q1, q2, q3, q4⟩ := q
  exact ⟨q0, q1, q2.calling g mk a, q3, q4⟩
abbrev LxI (l : Launch) (y : MethodName) (b : ByteArray) (n : Nat) (rm : Room) (av : List Value) (E : En) (H : Heap) (bb Ln : Nat) (xs : Nat → Int32) (v : Int32) : Prop := Met l y [.code y b n (some .int)] rm (PcX av E H bb Ln xs) (QiR v H) 0 0 noA
/-- a method with a handler -/
abbrev LwB (l : Launch) (y : MethodName) (b : ByteArray) (n : Nat) (hh : List (Nat × Nat × Nat × Nat)) (rm : Room) (av : List Value) (E : En) (H : Heap) (v : Int32) (B : Heap → Prop) (A1 : Nat → Prop) (mc ms : Nat) : Prop := Met l y [.codeWith y b n (some .boolean) hh] rm (PcR av E H) (QiM v B A1) mc ms A1
section LCW
variable {E : En} {x : Nat} {c : Cy} {Ks : List Nat} {H H1 : Heap}
theorem CW.wf (h : CW E x c Ks H) : WF c := by
  obtain ⟨ly, L, ad, hX, -⟩ := h
  exact hX.2.2.2
theorem CW.lt (h : CW E x c Ks H) {q : Nat} (hq : q ∈ Ks) : q < H.size := by
  obtain ⟨ly, L, ad, hX, -, -, h1⟩ := h
  exact h1 q hq
/-- cells outside are written, or new ones made -/
theorem CW.kept (h : CW E x c Ks H) (hz : H.size ≤ H1.size) (hk : ∀ q, q < H.size → H1[q]? = H[q]? ∨ q ∈ Ks) : CW E x c Ks H1 := by
  obtain ⟨ly, L, ad, hX, h1, h2, h3⟩ := h
  exact ⟨ly, L, ad, hX.kept (fun q q1 q2 => (hk q q1).elim id (fun z => absurd z (h2 q q2))), h1, h2, fun q hq => Nat.lt_of_lt_of_le (h3 q hq) hz⟩
theorem CW.push (h : CW E x c Ks H) (hz : H.size < H1.size) (hk : ∀ q, q < H.size → H1[q]? = H[q]?) : CW E x c (H.size :: Ks) H1 := by
  obtain ⟨ly, L, ad, hX, h1, h2, h3⟩ := h
  refine ⟨ly, L, ad, hX.kept (fun q q1 _ => hk q q1), h1, fun q hq hm => ?_, fun q hq => ?_⟩
  · rcases List.mem_cons.mp hm with e | e
    · have := hX.1.lt hq; omega
    · exact h2 q hq e
  · rcases List.mem_cons.mp hq with e | e
    · omega
    · have := h3 q e; omega
theorem CW.less (h : CW E x c Ks H) {Ks2 : List Nat} (hs : ∀ q, q ∈ Ks2 → q ∈ Ks) : CW E x c Ks2 H := by
  obtain ⟨ly, L, ad, hX, h1, h2, h3⟩ := h
  exact ⟨ly, L, ad, hX, h1, fun q hq hm => h2 q hq (hs q hm), fun q hq => h3 q (hs q hq)⟩
theorem iA.lt {a n : Nat} {f : Nat → Int32} (h : iA E a n f H) : a < H.size := (Array.getElem?_eq_some_iff.mp h).1
theorem iA.kept {a n : Nat} {f : Nat → Int32} (h : iA E a n f H) (hk : H1[a]? = H[a]?) : iA E a n f H1 := hk.trans h
end LCW
section LWB
variable {l : Launch} {E : En} {y : MethodName} {rm : Room} {Qc : Array Value → State → Outcome → State → Prop} {free : Addr → Prop} {cc : ByteArray} {maxL : Nat} {ret : Option FieldType} {av : List Value} {H : Heap} {mc ms : Nat} {hh : List (Nat × Nat × Nat × Nat)}
/-- the way into a body with handlers -/
theorem lw_of (hy : plainName y.cls = true) (hlen : (lg_sl av).length ≤ maxL)
    (body : ∀ (p : Program) (e : Env) (s : State) (m : MethodId) (below : List Frame) (meth : Method) (c : Code) (ls : Array Slot), p.tables.exec = Jvm.exec → c.code = cc → meth.sig.returnType = ret → c.maxLocals = maxL → s.vm.findClass y.cls = some m.cls → meth.locks = false → c.exceptionTable.toList = tableOf hh → Cs E s → s.heap = H → lv_has ls maxL (lv_args 0 av) →
      W p l e rm s m av.toArray below meth c H [] 0 0 (MQ below Qc av.toArray s mc ms free) (F0 m 0 ls [])) : Met l y [.codeWith y cc maxL ret hh] rm (PcR av E H) Qc mc ms free := by
  refine MetFree.of_bodyS (code := cc) (maxLocals := maxL) (ret := ret) hy ?_ ?_
  · intro args s m h hn
    obtain ⟨m9, meth, c, hn9, h1, h2, h3, h4, -, h5, h6, -⟩ := Cond.codeWith_spec (atoms_spec (ws := [.codeWith y cc maxL ret hh]) h _ List.mem_cons_self)
    cases hn.symm.trans hn9
    exact ⟨meth, c, h1, h2, h3, h4, h5, h6⟩
  · intro p e s m args below meth c s₁ B hml hP _
    have hh0 : s₁.heap = s.heap := by rw [B.state]; rfl
    have ht : c.exceptionTable.toList = tableOf hh := vx_table (x := y) B (atoms_spec (ws := [.codeWith y cc maxL ret hh]) B.pre _ List.mem_cons_self)
    obtain ⟨rfl, hU, hC⟩ := hP
    have hl := lv_entry av (n := maxL) hlen
    have h := body p e s m below meth c _ B.exec B.bytes B.returns hml (findClass_of_methodNamed B.named) B.notSynchronized ht hC hU hl
    rw [← hU] at h
    rw [← lg_entry_eq] at h
    obtain ⟨t, a1, o, b1, b2, b3⟩ := h s₁ hh0 (Stand.of_body B)
    exact ⟨t, o, a1, b1, b2, b3⟩
/-- the way into a body that reads the script -/
theorem lx_of {bb Ln : Nat} {xs : Nat → Int32} (hy : plainName y.cls = true) (hlen : (lg_sl av).length ≤ maxL)
    (body : ∀ (p : Program) (e : Env) (s : State) (m : MethodId) (below : List Frame) (meth : Method) (c : Code) (ls : Array Slot), p.tables.exec = Jvm.exec → c.code = cc → meth.sig.returnType = ret → c.maxLocals = maxL → s.vm.findClass y.cls = some m.cls → meth.locks = false → Cs E s → s.heap = H → va_X bb Ln xs s H → bb < H.size → lv_has ls maxL (lv_args 0 av) →
      W p l e rm s m av.toArray below meth c H [] 0 0 (MQ below Qc av.toArray s mc ms free) (F0 m 0 ls [])) : Met l y [.code y cc maxL ret] rm (PcX av E H bb Ln xs) Qc mc ms free := by
  refine Met.ofW (cc := cc) (maxL := maxL) (ret := ret) hy rfl ?_
  intro p e s m args below meth c s₁ B hml hv
  obtain ⟨rfl, hU, hC, hX, hb⟩ := hv
  have hl := lv_entry av (n := maxL) hlen
  rw [lg_entry_eq]
  have h := body p e s m below meth c _ B.exec B.bytes B.returns hml (findClass_of_methodNamed B.named) B.notSynchronized hC hU hX hb hl
  rw [hU]
  exact h
end LWB
section LRW
variable {p : Program} {l : Launch} {e : Env} {R : Room} {s : State} {m : MethodId} {args : Array Value} {below : List Frame} {meth : Method} {c : Code} {H H0 : Heap} {locs : List Loc} {cells slots : Nat} {Q : State → Prop}
variable {cc : ByteArray} {pc nL : Nat} {ls : Array Slot} {rest : List Value} {E : En} {A : Nat → Prop} {x : Nat} {cy c2 : Cy} {Ks : List Nat}
variable {y : MethodName} {b : ByteArray} {maxL n index : Nat} {rt : FieldType} {rm : Room} {own C : String}
/-- what is asked of the city -/
theorem la_V {As : List Value} {v : Int32} {nn : Nat} (hx : p.tables.exec = Jvm.exec) (hb : c.code = cc) (hml : c.maxLocals = nL) (hown : s.vm.findClass own = some m.cls) (hC : Cs E s) (hS : va_S A s.heap H locs) (hAb : ∀ q, A q → bA E q) (hW : CW E x cy Ks H)
    (hM : ∀ (ly : Ly) (L : List Nat) (ad : Nat → Nat → Nat), PX E cy ly L ad H → RoI l y b maxL rt rm (.ref (ad 0 0) :: As) E H v) (hK : KV own index RX3 y b maxL (some rt) nn) (hrm : rm.cells = 0 ∧ rm.slots = 0) (hR : rm.frames + 1 ≤ R.frames ∧ 8 + (maxL + 11) + rm.locals ≤ R.locals) (hn : As.length = nn) {lv : List (Nat × Value)} (hl : lv_has ls nL lv) (hr8 : (rest.map fun v => v.category).sum ≤ 8) (hc0 : cells ≤ R.cells ∧ slots ≤ R.slots) (hdg : decode cc pc = .ok (.invokevirtual index, 3))
    (kk : W p l e R s m args below meth c H locs cells slots Q (F0 m (pc + 3) ls (.int v :: rest))) : W p l e R s m args below meth c H locs cells slots Q (F0 m pc ls (As.reverse ++ .ref x :: rest)) := by
  obtain ⟨ly, L, ad, hX, hx0, -⟩ := hW
  subst hx0
  exact ro_V hx hb hml hown hC hS hAb (hM ly L ad hX) hK hrm hR (hX.1.recv hC cX_0 rfl) hn hl hr8 hc0 hdg kk
theorem la_VL {As : List Value} {v : Int64} {nn : Nat} (hx : p.tables.exec = Jvm.exec) (hb : c.code = cc) (hml : c.maxLocals = nL) (hown : s.vm.findClass own = some m.cls) (hC : Cs E s) (hS : va_S A s.heap H locs) (hAb : ∀ q, A q → bA E q) (hW : CW E x cy Ks H)
    (hM : ∀ (ly : Ly) (L : List Nat) (ad : Nat → Nat → Nat), PX E cy ly L ad H → RoL l y b maxL rm (.ref (ad 0 0) :: As) E H v) (hK : KV own index RX3 y b maxL (some .long) nn) (hrm : rm.cells = 0 ∧ rm.slots = 0) (hR : rm.frames + 1 ≤ R.frames ∧ 8 + (maxL + 11) + rm.locals ≤ R.locals) (hn : As.length = nn) {lv : List (Nat × Value)} (hl : lv_has ls nL lv) (hr8 : (rest.map fun v => v.category).sum ≤ 8) (hc0 : cells ≤ R.cells ∧ slots ≤ R.slots) (hdg : decode cc pc = .ok (.invokevirtual index, 3))
    (kk : W p l e R s m args below meth c H locs cells slots Q (F0 m (pc + 3) ls (.long v :: rest))) : W p l e R s m args below meth c H locs cells slots Q (F0 m pc ls (As.reverse ++ .ref x :: rest)) := by
  obtain ⟨ly, L, ad, hX, hx0, -⟩ := hW
  subst hx0
  exact ro_VL hx hb hml hown hC hS hAb (hM ly L ad hX) hK hrm hR (hX.1.recv hC cX_0 rfl) hn hl hr8 hc0 hdg kk
theorem ro_VD {As : List Value} {h0 : Nat} {v : UInt64} {nn : Nat} (hx : p.tables.exec = Jvm.exec) (hb : c.code = cc) (hml : c.maxLocals = nL) (hown : s.vm.findClass own = some m.cls) (hC : Cs E s) (hS : va_S A s.heap H locs) (hAb : ∀ q, A q → bA E q)
    (hM : RoD l y b maxL rm (.ref h0 :: As) E H v) (hK : KV own index C y b maxL (some .double) nn) (hrm : rm.cells = 0 ∧ rm.slots = 0) (hR : rm.frames + 1 ≤ R.frames ∧ 8 + (maxL + 11) + rm.locals ≤ R.locals) (hrecv : ∃ cellB : Cell, H[h0]? = some cellB ∧ cellB.vm.isStatics = false ∧ s.vm.findClass C = some cellB.cls) (hn : As.length = nn) {lv : List (Nat × Value)} (hl : lv_has ls nL lv) (hr8 : (rest.map fun v => v.category).sum ≤ 8) (hc0 : cells ≤ R.cells ∧ slots ≤ R.slots) (hdg : decode cc pc = .ok (.invokevirtual index, 3))
    (kk : W p l e R s m args below meth c H locs cells slots Q (F0 m (pc + 3) ls (.double v :: rest))) : W p l e R s m args below meth c H locs cells slots Q (F0 m pc ls (As.reverse ++ .ref h0 :: rest)) := by
  have hts := hC.2.1.hts args
  refine run_ro (mc := 0) (ms := 0) (a := (Value.ref h0 :: As).toArray) (va_runV (As := As) (rest := rest) ⟨hx, hb, hml, hown, hts⟩ hM (cwV nn hts hK.1 rfl hrm.1 hrm.2 hK.2 hR) ⟨PcR.blind, hrecv, fun U hU hW => ⟨rfl, hU, hC.go hW hU hS hAb⟩⟩ rfl hn hl.1 rfl (lv_room hr8) hdg hc0) ?_
  intro w st₀ t h1 _ hq
  obtain ⟨⟨r, u, h2, h3, h4⟩, -⟩ := hq
  cases h2
  subst h3
  exact ⟨h4, kk⟩
theorem la_VD {As : List Value} {v : UInt64} {nn : Nat} (hx : p.tables.exec = Jvm.exec) (hb : c.code = cc) (hml : c.maxLocals = nL) (hown : s.vm.findClass own = some m.cls) (hC : Cs E s) (hS : va_S A s.heap H locs) (hAb : ∀ q, A q → bA E q) (hW : CW E x cy Ks H)
    (hM : ∀ (ly : Ly) (L : List Nat) (ad : Nat → Nat → Nat), PX E cy ly L ad H → RoD l y b maxL rm (.ref (ad 0 0) :: As) E H v) (hK : KV own index RX3 y b maxL (some .double) nn) (hrm : rm.cells = 0 ∧ rm.slots = 0) (hR : rm.frames + 1 ≤ R.frames ∧ 8 + (maxL + 11) + rm.locals ≤ R.locals) (hn : As.length = nn) {lv : List (Nat × Value)} (hl : lv_has ls nL lv) (hr8 : (rest.map fun v => v.category).sum ≤ 8) (hc0 : cells ≤ R.cells ∧ slots ≤ R.slots) (hdg : decode cc pc = .ok (.invokevirtual index, 3))
    (kk : W p l e R s m args below meth c H locs cells slots Q (F0 m (pc + 3) ls (.double v :: rest))) : W p l e R s m args below meth c H locs cells slots Q (F0 m pc ls (As.reverse ++ .ref x :: rest)) := by
  obtain ⟨ly, L, ad, hX, hx0, -⟩ := hW
  subst hx0
  exact ro_VD hx hb hml hown hC hS hAb (hM ly L ad hX) hK hrm hR (hX.1.recv hC cX_0 rfl) hn hl hr8 hc0 hdg kk
theorem RoI.cast {l : Launch} {y : MethodName} {b : ByteArray} {n : Nat} {ret : FieldType} {rm : Room} {av : List Value} {E : En} {H : Heap} {v w : Int32} (e : v = w) (h : RoI l y b n ret rm av E H v) : RoI l y b n ret rm av E H w := e ▸ h
/-- what may be written of the city -/
theorem fL_of (hC : Cs E s) (hS : va_S A s.heap H locs) (hA : ∀ q, fL E Ks q → A q) {ly : Ly} {L : List Nat} {ad : Nat → Nat → Nat} (hX : PX E cy ly L ad H) (hd : ∀ q, q ∈ L → q ∉ Ks) (hk : ∀ q, q ∈ Ks → q < H.size) : ∀ q, cA L H q → A q := fun q h => h.elim (fun h => hA q ⟨hX.2.2.1 q h, hd q h⟩) (fun h => hA q ⟨Nat.le_trans hC.2.2.2.1 (Nat.le_trans hS.1 h), fun z => absurd (hk q z) (Nat.not_lt.mpr h)⟩)
/-- the city grown by a call -/
theorem CW.of {H1 : Heap} {L : List Nat} {ad : Nat → Nat → Nat} {sz : Nat} (hsz : sz = H.size) (hd : ∀ q, q ∈ L → q ∉ Ks) (hk : ∀ q, q ∈ Ks → q < H.size) (hz : H.size ≤ H1.size) (h : ∃ (L2 : List Nat) (ly2 : Ly) (ad2 : Nat → Nat → Nat), PX E c2 ly2 L2 ad2 H1 ∧ ad2 0 0 = ad 0 0 ∧ (∀ q, q ∈ L2 → q ∈ L ∨ sz ≤ q)) : CW E (ad 0 0) c2 Ks H1 := by
  subst hsz
  obtain ⟨L2, ly2, ad2, h1, h2, h3⟩ := h
  exact ⟨ly2, L2, ad2, h1, h2, fun q hq => (h3 q hq).elim (hd q) (fun z w => absurd (hk q w) (Nat.not_lt.mpr z)), fun q hq => Nat.lt_of_lt_of_le (hk q hq) hz⟩
/-- a call that writes the city -/
theorem lu_V {As : List Value} {v : Int32} {nn mc ms : Nat} (hx : p.tables.exec = Jvm.exec) (hb : c.code = cc) (hml : c.maxLocals = nL) (hown : s.vm.findClass own = some m.cls) (hC : Cs E s) (hS : va_S A s.heap H locs) (hAb : ∀ q, A q → bA E q) (hA : ∀ q, fL E Ks q → A q) (hW : CW E x cy Ks H)
    (hM : ∀ (ly : Ly) (L : List Nat) (ad : Nat → Nat → Nat), PX E cy ly L ad H → MuI l y b maxL rt rm (.ref (ad 0 0) :: As) E H v (fun H1 => PX E c2 ly L ad H1) (cA L H) mc ms) (hK : KV own index RX3 y b maxL (some rt) nn) (hrm : rm.cells = mc ∧ rm.slots = ms) (hR : rm.frames + 1 ≤ R.frames ∧ 8 + (maxL + 11) + rm.locals ≤ R.locals) (hn : As.length = nn) {lv : List (Nat × Value)} (hl : lv_has ls nL lv) (hr8 : (rest.map fun v => v.category).sum ≤ 8) (hc0 : cells + mc ≤ R.cells ∧ slots + ms ≤ R.slots) (hdg : decode cc pc = .ok (.invokevirtual index, 3))
    (kk : ∀ (H1 : Heap) (locs1 : List Loc), CW E x c2 Ks H1 → va_S A s.heap H1 locs1 → H.size ≤ H1.size → (∀ q, q ∈ Ks → H1[q]? = H[q]?) → W p l e R s m args below meth c H1 locs1 (cells + mc) (slots + ms) Q (F0 m (pc + 3) ls (.int v :: rest))) : W p l e R s m args below meth c H locs cells slots Q (F0 m pc ls (As.reverse ++ .ref x :: rest)) := by
  obtain ⟨ly, L, ad, hX, hx0, hd, hk⟩ := hW
  subst hx0
  exact mu_V hx hb hml hown hC hS hAb (hM ly L ad hX) (fL_of hC hS hA hX hd hk) hK hrm hR (hX.1.recv hC cX_0 rfl) hn hl hr8 hc0 hdg (fun H1 locs1 hB hS1 hz hq => kk H1 locs1 (CW.of rfl hd hk hz ⟨L, ly, ad, hB, rfl, fun q h => Or.inl h⟩) hS1 hz (fun q h => hq q (hk q h) (fun z => z.elim (fun z => hd q z h) (fun z => absurd (hk q h) (Nat.not_lt.mpr z)))))
theorem lu_M {As : List Value} {v : Int32} {nn mc ms : Nat} (hx : p.tables.exec = Jvm.exec) (hb : c.code = cc) (hml : c.maxLocals = nL) (hown : s.vm.findClass own = some m.cls) (hC : Cs E s) (hS : va_S A s.heap H locs) (hAb : ∀ q, A q → bA E q) (hA : ∀ q, fL E Ks q → A q) (hW : CW E x cy Ks H)
    (hM : ∀ (ly : Ly) (L : List Nat) (ad : Nat → Nat → Nat), PX E cy ly L ad H → MuI l y b maxL rt rm (.ref (ad 0 0) :: As) E H v (fun H1 => ∃ (L2 : List Nat) (ly2 : Ly) (ad2 : Nat → Nat → Nat), PX E c2 ly2 L2 ad2 H1 ∧ ad2 0 0 = ad 0 0 ∧ (∀ q, q ∈ L2 → q ∈ L ∨ H.size ≤ q)) (cA L H) mc ms) (hK : KV own index RX3 y b maxL (some rt) nn) (hrm : rm.cells = mc ∧ rm.slots = ms) (hR : rm.frames + 1 ≤ R.frames ∧ 8 + (maxL + 11) + rm.locals ≤ R.locals) (hn : As.length = nn) {lv : List (Nat × Value)} (hl : lv_has ls nL lv) (hr8 : (rest.map fun v => v.category).sum ≤ 8) (hc0 : cells + mc ≤ R.cells ∧ slots + ms ≤ R.slots) (hdg : decode cc pc = .ok (.invokevirtual index, 3))
    (kk : ∀ (H1 : Heap) (locs1 : List Loc), CW E x c2 Ks H1 → va_S A s.heap H1 locs1 → H.size ≤ H1.size → (∀ q, q ∈ Ks → H1[q]? = H[q]?) → W p l e R s m args below meth c H1 locs1 (cells + mc) (slots + ms) Q (F0 m (pc + 3) ls (.int v :: rest))) : W p l e R s m args below meth c H locs cells slots Q (F0 m pc ls (As.reverse ++ .ref x :: rest)) := by
  obtain ⟨ly, L, ad, hX, hx0, hd, hk⟩ := hW
  subst hx0
  exact mu_V hx hb hml hown hC hS hAb (hM ly L ad hX) (fL_of hC hS hA hX hd hk) hK hrm hR (hX.1.recv hC cX_0 rfl) hn hl hr8 hc0 hdg (fun H1 locs1 hB hS1 hz hq => kk H1 locs1 (CW.of rfl hd hk hz hB) hS1 hz (fun q h => hq q (hk q h) (fun z => z.elim (fun z => hd q z h) (fun z => absurd (hk q h) (Nat.not_lt.mpr z)))))
/-- a call that throws -/
theorem lt_V {As : List Value} {v : Int32} {nn f lo : Nat} {xs : Nat → String} (hx : p.tables.exec = Jvm.exec) (hb : c.code = cc) (hml : c.maxLocals = nL) (hown : s.vm.findClass own = some m.cls) (hC : Cs E s) (hS : va_S A s.heap H locs) (hAb : ∀ q, A q → bA E q) (hW : CW E x cy Ks H)
    (hM : ∀ (ly : Ly) (L : List Nat) (ad : Nat → Nat → Nat), PX E cy ly L ad H → ExI l y b maxL rt f lo (.ref (ad 0 0) :: As) E H 1 xs v) (hK : KV own index RX3 y b maxL (some rt) nn) (hR : f + 1 ≤ R.frames ∧ 8 + (maxL + 11) + lo ≤ R.locals) (hn : As.length = nn) {lv : List (Nat × Value)} (hl : lv_has ls nL lv) (hr8 : (rest.map fun v => v.category).sum ≤ 8) (hcs : cells + 1 ≤ R.cells ∧ slots + 6 ≤ R.slots) (hdg : decode cc pc = .ok (.invokevirtual index, 3))
    (kx : ∀ (q9 : Addr) (ce : Cell) (H1 : Heap), CW E x cy Ks H1 → va_S A s.heap H1 locs → H.size ≤ H1.size → (∀ q, q < H.size → H1[q]? = H[q]?) → H1[q9]? = some ce → ce.vm = .none → s.vm.findClass (xs 1) = some ce.cls → vx_W p l e R s m args below meth c H1 locs (cells + 1) (slots + 6) Q (F0 m pc ls rest) q9) : W p l e R s m args below meth c H locs cells slots Q (F0 m pc ls (As.reverse ++ .ref x :: rest)) := by
  have hts := hC.2.1.hts args
  obtain ⟨ly, L, ad, hX, hx0, hd, hk⟩ := hW
  subst hx0
  refine run_ex (k := 1) (xs := xs) (vx_runV (As := As) (rest := rest) ⟨hx, hb, hml, hown, hts⟩ (hM ly L ad hX) (cwV nn hts hK.1 rfl rfl rfl hK.2 hR) ⟨PcR.blind, hX.1.recv hC cX_0 rfl, fun U hU2 hW => ⟨rfl, hU2, hC.go hW hU2 hS hAb⟩⟩ rfl hn hl.1 rfl (lv_room hr8) hdg hcs) (fun _ q9 ce t hS2 _ hce hcv hcl => ?_) ?_
  · have hk2 : ∀ q, q < H.size → t.heap[q]? = H[q]? := fun q h => hS2.2.1 q h (fun z => z)
    exact kx q9 ce t.heap ⟨ly, L, ad, hX.kept (fun q h _ => hk2 q h), rfl, hd, fun q h => Nat.lt_of_lt_of_le (hk q h) hS2.1⟩ ⟨Nat.le_trans hS.1 hS2.1, fun q h1 h2 => (hk2 q (Nat.lt_of_lt_of_le h1 hS.1)).trans (hS.2.1 q h1 h2), hS.2.2⟩ hS2.1 hk2 hce hcv hcl
  · intro w st₀ t h1 hq
    obtain ⟨⟨r, u, h2, ⟨h3, h4⟩, h5⟩, -⟩ := hq
    exact absurd h3 (by decide)
/-- arrays of the law -/
theorem li_ld {a n j : Nat} {f : Nat → Int32} (hx : p.tables.exec = Jvm.exec) (hb : c.code = cc) (hC : Cs E s) (hI : iA E a n f H) (hj : j < n) (hn : n < 2 ^ 31) (hdg : decode cc pc = .ok (.iaload, 1))
    (kk : W p l e R s m args below meth c H locs cells slots Q (F0 m (pc + 1) ls (.int (f j) :: rest))) : W p l e R s m args below meth c H locs cells slots Q (F0 m pc ls (.int (nI j) :: .ref a :: rest)) := by
  have e0 : (nI j).toNatClampNeg = j := nI_clamp (Nat.lt_trans hj hn)
  refine W.iald (v := .int (f j)) hx hb hI ((hC.1.2 0 (E.2 1, .int) rfl).1 n (fun j => .int (f j))) (fun q => by cases q) (by rw [arrV_size]; exact vp_in_nI hj hn) (by rw [e0]; exact arrV_read _ _ hj) rfl rfl hdg kk
theorem li_st {a n j : Nat} {f : Nat → Int32} {v : Int32} (hx : p.tables.exec = Jvm.exec) (hb : c.code = cc) (hC : Cs E s) (hI : iA E a n f H) (hW : CW E x cy Ks H) (hS : va_S A s.heap H locs) (hAa : A a) (haK : a ∈ Ks) (hj : j < n) (hn : n < 2 ^ 31) (hdg : decode cc pc = .ok (.iastore, 1))
    (kk : ∀ (H1 : Heap) (locs1 : List Loc), iA E a n (upd f j v) H1 → CW E x cy Ks H1 → va_S A s.heap H1 locs1 → H.size ≤ H1.size → (∀ q : Nat, q ≠ a → H1[q]? = H[q]?) → W p l e R s m args below meth c H1 locs1 cells slots Q (F0 m (pc + 1) ls rest)) : W p l e R s m args below meth c H locs cells slots Q (F0 m pc ls (.int v :: .int (nI j) :: .ref a :: rest)) := by
  have e0 : (nI j).toNatClampNeg = j := nI_clamp (Nat.lt_trans hj hn)
  refine W.iast hx hb hI ((hC.1.2 0 (E.2 1, .int) rfl).1 n (fun j => .int (f j))) (fun q => by cases q) (by rw [arrV_size]; exact vp_in_nI hj hn) rfl rfl hdg fun H1 e1 z oq => ?_
  refine kk H1 _ ?_ (hW.kept (Nat.le_of_eq z.symm) (fun q _ => (Decidable.em (q = a)).elim (fun h => Or.inr (by rw [h]; exact haK)) (fun h => Or.inl (oq q h)))) (hS.put z oq hAa) (Nat.le_of_eq z.symm) oq
  show H1[a]? = some _
  rw [e1, e0, arrV_store]
  have e2 : updV (fun j => Value.int (f j)) j (.int v) = fun k => Value.int (upd f j v k) := by
    funext k
    unfold updV upd
    split <;> rfl
  rw [e2]
theorem li_new {n : Nat} (hx : p.tables.exec = Jvm.exec) (hb : c.code = cc) (hC : Cs E s) (hW : CW E x cy Ks H) (hS : va_S A s.heap H locs) (hn : n < 1000) (hcells : cells + 1 ≤ R.cells ∧ slots + n ≤ R.slots) (hdg : decode cc pc = .ok (.newarray .int, 2))
    (kk : ∀ (a : Nat) (H1 : Heap), a = H.size → fL E Ks a → iA E a n (fun _ => nI 0) H1 → CW E x cy (a :: Ks) H1 → va_S A s.heap H1 locs → (∀ q, q < H.size → H1[q]? = H[q]?) → W p l e R s m args below meth c H1 locs (cells + 1) (slots + n) Q (F0 m (pc + 2) ls (.ref a :: rest))) : W p l e R s m args below meth c H locs cells slots Q (F0 m pc ls (.int (nI n) :: rest)) := by
  refine va_newaK (atype := .int) (N := n) hx hb (hC.2.1.hts args _ wArI) rfl hdg rfl (nI_pos (by omega)) (nI_clamp (by omega)) (by show n * 4 ≤ _; omega) hcells.1 hcells.2 rfl fun H1 cA e1 z1 o1 hAr hNm => ?_
  have e2 : cA = E.2 1 := ra_eq (tys := tyl E) (D := E.1) (cl := vwCl) (ty := .int) hC.1 ⟨hC.1.1, fun k q hk => by
    by_cases h : k < (tyl E).length
    · rw [List.getElem?_append_left h] at hk; exact hC.1.2 k q hk
    · rw [List.getElem?_append_right (by omega)] at hk
      have hz : k - (tyl E).length < 1 := (List.getElem?_eq_some_iff.mp hk).1
      rw [show k - (tyl E).length = 0 by omega] at hk
      cases hk
      exact ⟨hAr, hNm⟩⟩ 0 rfl
  rw [e2] at e1
  exact kk H.size H1 rfl ⟨Nat.le_trans hC.2.2.2.1 hS.1, fun z => absurd (hW.lt z) (Nat.lt_irrefl _)⟩ e1 (hW.push (by omega) o1) ⟨Nat.le_trans hS.1 (by omega), fun q h1 h2 => (o1 q (Nat.lt_of_lt_of_le h1 hS.1)).trans (hS.2.1 q h1 h2), hS.2.2⟩ o1
/-- a method of the law with a handler -/
def KB (own : String) (idx : Nat) (y : MethodName) (b : ByteArray) (n : Nat) (hh : List (Nat × Nat × Nat × Nat)) (np : Nat) : Prop :=
  GoodIn WG (va_wsS own idx y [.codeWith y b n (some .boolean) hh]) ∧ (y.cls ≠ "java/lang/invoke/MethodHandle" ∧ y.cls ≠ "java/lang/invoke/VarHandle" ∧ (parseMethodDescriptor y.desc).map (fun d => d.parameters.length) = some np)
theorem KB.of {own : String} {idx : Nat} {y : MethodName} {b : ByteArray} {n np : Nat} {hh : List (Nat × Nat × Nat × Nat)} (h1 : .methodLink own idx y ∈ WG) (h2 : .static y ∈ WG) (h4 : .initialized y.cls ∈ WG) (h5 : .codeWith y b n (some .boolean) hh ∈ WG) (hd : y.cls ≠ "java/lang/invoke/MethodHandle" ∧ y.cls ≠ "java/lang/invoke/VarHandle" ∧ (parseMethodDescriptor y.desc).map (fun d => d.parameters.length) = some np) : KB own idx y b n hh np := by
  refine ⟨fun w hw => ?_, hd⟩
  have h : w ∈ WG := by
    simp only [va_wsS, List.mem_append, List.mem_cons, List.not_mem_nil, or_false] at hw
    rcases hw with (rfl | rfl | rfl) | rfl <;> assumption
  exact ⟨h, wg_good h⟩
theorem lw_S {As : List Value} {v : Int32} {nn mc ms : Nat} {hh : List (Nat × Nat × Nat × Nat)} {B : Heap → Prop} {A1 : Nat → Prop} (hx : p.tables.exec = Jvm.exec) (hb : c.code = cc) (hml : c.maxLocals = nL) (hown : s.vm.findClass own = some m.cls) (hC : Cs E s) (hS : va_S A s.heap H locs) (hAb : ∀ q, A q → bA E q)
    (hM : LwB l y b maxL hh rm As E H v B A1 mc ms) (hA1 : ∀ q, A1 q → A q) (hK : KB own index y b maxL hh nn) (hrm : rm.cells = mc ∧ rm.slots = ms) (hR : rm.frames + 1 ≤ R.frames ∧ 8 + (maxL + 11) + rm.locals ≤ R.locals) (hn : As.length = nn) {lv : List (Nat × Value)} (hl : lv_has ls nL lv) (hr8 : (rest.map fun v => v.category).sum ≤ 8) (hc0 : cells + mc ≤ R.cells ∧ slots + ms ≤ R.slots) (hdg : decode cc pc = .ok (.invokestatic index, 3))
    (kk : ∀ (H1 : Heap) (locs1 : List Loc), B H1 → va_S A s.heap H1 locs1 → H.size ≤ H1.size → (∀ q, q < H.size → ¬ A1 q → H1[q]? = H[q]?) → W p l e R s m args below meth c H1 locs1 (cells + mc) (slots + ms) Q (F0 m (pc + 3) ls (.int v :: rest))) : W p l e R s m args below meth c H locs cells slots Q (F0 m pc ls (As.reverse ++ rest)) := by
  have hts := hC.2.1.hts args
  refine va_calli (vx_runSW (As := As) (rest := rest) ⟨hx, hb, hml, hown, hts⟩ hM (vx_cwSW nn hts hK.1 rfl hrm.1 hrm.2 hK.2 hR) ⟨PcR.blind, fun U hU hW => ⟨rfl, hU, hC.go hW hU hS hAb⟩⟩ rfl hn hl.1 rfl (lv_room hr8) hdg hc0) hS (fun q _ h => hA1 q h) hA1 (fun r u t H1 locs1 ht hvm hw hB hz hk hS1 => ?_)
  subst hw
  rw [ht] at hB
  exact kk H1 locs1 hB hS1 hz hk
/-- a static method that writes -/
theorem mu_S {As : List Value} {v : Int32} {nn mc ms : Nat} {B : Heap → Prop} {A1 : Nat → Prop} (hx : p.tables.exec = Jvm.exec) (hb : c.code = cc) (hml : c.maxLocals = nL) (hown : s.vm.findClass own = some m.cls) (hC : Cs E s) (hS : va_S A s.heap H locs) (hAb : ∀ q, A q → bA E q)
    (hM : MuI l y b maxL rt rm As E H v B A1 mc ms) (hA1 : ∀ q, A1 q → A q) (hK : KS own index y b maxL (some rt) nn) (hrm : rm.cells = mc ∧ rm.slots = ms) (hR : rm.frames + 1 ≤ R.frames ∧ 8 + (maxL + 11) + rm.locals ≤ R.locals) (hn : As.length = nn) {lv : List (Nat × Value)} (hl : lv_has ls nL lv) (hr8 : (rest.map fun v => v.category).sum ≤ 8) (hc0 : cells + mc ≤ R.cells ∧ slots + ms ≤ R.slots) (hdg : decode cc pc = .ok (.invokestatic index, 3))
    (kk : ∀ (H1 : Heap) (locs1 : List Loc), B H1 → va_S A s.heap H1 locs1 → H.size ≤ H1.size → (∀ q, q < H.size → ¬ A1 q → H1[q]? = H[q]?) → W p l e R s m args below meth c H1 locs1 (cells + mc) (slots + ms) Q (F0 m (pc + 3) ls (.int v :: rest))) : W p l e R s m args below meth c H locs cells slots Q (F0 m pc ls (As.reverse ++ rest)) := by
  have hts := hC.2.1.hts args
  refine va_calli (va_runS (As := As) (rest := rest) ⟨hx, hb, hml, hown, hts⟩ hM (va_cwS nn hts hK.1 rfl hrm.1 hrm.2 hK.2 hR) ⟨PcR.blind, fun U hU hW => ⟨rfl, hU, hC.go hW hU hS hAb⟩⟩ rfl hn hl.1 rfl (lv_room hr8) hdg hc0) hS (fun q _ h => hA1 q h) hA1 (fun r u t H1 locs1 ht hvm hw hB hz hk hS1 => ?_)
  subst hw
  rw [ht] at hB
  exact kk H1 locs1 hB hS1 hz hk
/-- a call that reads the script -/
theorem lx_S {As : List Value} {v : Int32} {nn bb Ln : Nat} {xs : Nat → Int32} (hx : p.tables.exec = Jvm.exec) (hb : c.code = cc) (hml : c.maxLocals = nL) (hown : s.vm.findClass own = some m.cls) (hC : Cs E s) (hS : va_S A s.heap H locs) (hAb : ∀ q, A q → bA E q) (hXs : va_X bb Ln xs s s.heap) (hbl : bb < s.heap.size) (hbA : ¬ A bb)
    (hM : bb < H.size → LxI l y b maxL rm As E H bb Ln xs v) (hK : KS own index y b maxL (some .int) nn) (hrm : rm.cells = 0 ∧ rm.slots = 0) (hR : rm.frames + 1 ≤ R.frames ∧ 8 + (maxL + 11) + rm.locals ≤ R.locals) (hn : As.length = nn) {lv : List (Nat × Value)} (hl : lv_has ls nL lv) (hr8 : (rest.map fun v => v.category).sum ≤ 8) (hc0 : cells ≤ R.cells ∧ slots ≤ R.slots) (hdg : decode cc pc = .ok (.invokestatic index, 3))
    (kk : W p l e R s m args below meth c H locs cells slots Q (F0 m (pc + 3) ls (.int v :: rest))) : W p l e R s m args below meth c H locs cells slots Q (F0 m pc ls (As.reverse ++ rest)) := by
  have hts := hC.2.1.hts args
  have hbH : bb < H.size := Nat.lt_of_lt_of_le hbl hS.1
  have hXH : va_X bb Ln xs s H := hXs.kept (hS.2.1 bb hbl hbA)
  refine run_ro (mc := 0) (ms := 0) (a := As.toArray) (va_runS (As := As) (rest := rest) ⟨hx, hb, hml, hown, hts⟩ (hM hbH) (va_cwS nn hts hK.1 rfl hrm.1 hrm.2 hK.2 hR) ⟨PcX.blind, fun U hU hW => ⟨rfl, hU, hC.go hW hU hS hAb, hXH.moved hW.alike, hbH⟩⟩ rfl hn hl.1 rfl (lv_room hr8) hdg hc0) ?_
  intro w st₀ t h1 _ hq
  obtain ⟨⟨r, u, h2, h3, h4⟩, -⟩ := hq
  cases h2
  subst h3
  exact ⟨h4, kk⟩
end LRW
