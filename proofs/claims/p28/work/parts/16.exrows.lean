/-! calls that may throw: k = 0: the answer is v; otherwise the exception xs k -/
def mcX (k : Nat) : Nat := if k = 0 then 0 else 1
def msX (k : Nat) : Nat := if k = 0 then 0 else 6
theorem mcX_0 : mcX 0 = 0 := rfl
theorem mcX_n {k : Nat} (h : k ≠ 0) : mcX k = 1 := if_neg h
theorem msX_n {k : Nat} (h : k ≠ 0) : msX k = 6 := if_neg h
abbrev xIO : String := "java/lang/IndexOutOfBoundsException"
abbrev xIA : String := "java/lang/IllegalArgumentException"
abbrev xIS : String := "java/lang/IllegalStateException"
/-- which exception: by its place -/
def xsS (a b d : String) (k : Nat) : String := if k = 1 then a else if k = 2 then b else d
abbrev QiX (k : Nat) (v : Int32) (H : Heap) : Array Value → State → Outcome → State → Prop := va_Qi (fun (r : Int32) (_ : Unit) => k = 0 ∧ r = v) (fun _ t => t.heap = H) noA
abbrev QrX (k : Nat) (v : Nat) (H : Heap) : Array Value → State → Outcome → State → Prop := fun _ st oc t => oc = .returned (some (.ref v)) ∧ k = 0 ∧ t.heap = H ∧ va_F noA st t
abbrev XCX (k : Nat) (xs : Nat → String) : String → State → State → Prop := fun Ex st t => k ≠ 0 ∧ Ex = xs k ∧ va_F noA st t
abbrev ExI (l : Launch) (y : MethodName) (b : ByteArray) (n : Nat) (ret : FieldType) (f lo : Nat) (av : List Value) (E : En) (H : Heap) (k : Nat) (xs : Nat → String) (v : Int32) : Prop := vx_Met l y [.code y b n (some ret)] (rmk f (mcX k) (msX k) lo) (PcR av E H) (QiX k v H) (XCX k xs) (mcX k) (msX k) noA
abbrev ExR (l : Launch) (y : MethodName) (b : ByteArray) (n : Nat) (ret : FieldType) (f lo : Nat) (av : List Value) (E : En) (H : Heap) (k : Nat) (xs : Nat → String) (v : Nat) : Prop := vx_Met l y [.code y b n (some ret)] (rmk f (mcX k) (msX k) lo) (PcR av E H) (QrX k v H) (XCX k xs) (mcX k) (msX k) noA
section EXA
variable {l : Launch} {E : En} {y : MethodName} {rm : Room} {Qc : Array Value → State → Outcome → State → Prop} {XC : String → State → State → Prop} {free : Addr → Prop} {cc : ByteArray} {maxL : Nat} {ret : Option FieldType} {av : List Value} {H : Heap} {mc ms : Nat}
theorem ex_of (hy : plainName y.cls = true) (hlen : (lg_sl av).length ≤ maxL)
    (body : ∀ (p : Program) (e : Env) (s : State) (m : MethodId) (below : List Frame) (meth : Method) (c : Code) (ls : Array Slot), p.tables.exec = Jvm.exec → c.code = cc → meth.sig.returnType = ret → c.maxLocals = maxL → s.vm.findClass y.cls = some m.cls → meth.locks = false → (∀ x ∈ c.exceptionTable.toList, False) → Cs E s → s.heap = H → lv_has ls maxL (lv_args 0 av) →
      W p l e rm s m av.toArray below meth c H [] 0 0 (vx_MQ below Qc XC av.toArray s mc ms free) (F0 m 0 ls [])) : vx_Met l y [.code y cc maxL ret] rm (PcR av E H) Qc XC mc ms free := by
  refine vx_ofW (cc := cc) (maxL := maxL) (ret := ret) hy rfl ?_
  intro p e s m args below meth c s₁ B hml ht hv
  obtain ⟨rfl, hU, hC⟩ := hv
  have hl := lv_entry av (n := maxL) hlen
  rw [lg_entry_eq]
  have h := body p e s m below meth c _ B.exec B.bytes B.returns hml (findClass_of_methodNamed B.named) B.notSynchronized ht hC hU hl
  rw [hU]
  exact h
end EXA
/-- the words of the three exceptions' makings in the class -/
theorem tx_stb {s : State} {args : Array Value} (hC : Wd s) {L : List Cond} (h : ∀ w ∈ L, w ∈ lw_tbl ∧ stb w = true) : ∀ w ∈ L, w.before args s = true := fun w hw => by
  obtain ⟨h1, h2⟩ := h w hw
  have h3 := hC w h1 h2
  by_cases hg : goodWord w = true
  · exact hC.at h1 hg args
  · unfold stb at h2
    rcases (Bool.or_eq_true _ _).mp h2 with q | q
    · exact absurd q hg
    · have ht : w.onTables = true := by
        unfold stn at q
        split at q <;> first | rfl | cases q
      exact va_Nw.use ht h3
def TX (own : String) (ic : Nat) (cls : String) : Prop := ∀ w ∈ Cond.initialized cls :: vx_atS own ic cls ["java/lang/RuntimeException", "java/lang/Exception"], (w ∈ lw_tbl ∧ stb w = true) ∧ vx_ot w = true
section EXB
variable {p : Program} {l : Launch} {e : Env} {R : Room} {s : State} {m : MethodId} {args : Array Value} {below : List Frame} {meth : Method} {c : Code} {H : Heap} {locs : List Loc} {cells slots : Nat} {Q : State → Prop}
variable {cc : ByteArray} {pc nL : Nat} {ls : Array Slot} {rest : List Value} {E : En} {L : List Nat} {ct : Nat → Nat → Option va_E} {ad : Nat → Nat → Nat} {A : Nat → Prop}
variable {y : MethodName} {b : ByteArray} {maxL n index : Nat} {rt : FieldType} {rm : Room} {own C : String}
theorem vx_ot_cl {own C : String} {ik : Nat} : vx_ot (Cond.classLink own ik C) = true := rfl
/-- throw new E("text") -/
theorem ex_throw {Qc : Array Value → State → Outcome → State → Prop} {XC : String → State → State → Prop} {mc ms : Nat} {free : Addr → Prop} (hx : p.tables.exec = Jvm.exec) (hb : c.code = cc) (hst : l.stackTraces = false) (hC : Cs E s) (hS : va_S A s.heap H locs) (hAb : ∀ q, A q → bA E q) (hown : s.vm.findClass own = some m.cls) {cls text : String} {ik is ic j : Nat} (hk : .classLink own ik cls ∈ WG) (htx : TX own ic cls) (hcls : Bundle.fit cls = true) (hstr : strl[j]? = some (own, is, text))
    (hsize : ls.size = c.maxLocals) (hw : (decode cc (pc + 4) = .ok (.ldc is, 2) ∧ decode cc (pc + 6) = .ok (.invokespecial ic, 3) ∧ decode cc (pc + 9) = .ok (.athrow, 1)) ∨ (decode cc (pc + 4) = .ok (.ldc_w is, 3) ∧ decode cc (pc + 7) = .ok (.invokespecial ic, 3) ∧ decode cc (pc + 10) = .ok (.athrow, 1)))
    (d0 : decode cc pc = .ok (.new ik, 3)) (d3 : decode cc (pc + 3) = .ok (.dup, 1)) (hout : ∀ x ∈ c.exceptionTable.toList, False) (hR : 5 < R.frames ∧ (rest.map fun v => v.category).sum + 82 ≤ R.locals ∧ cells + 1 ≤ R.cells ∧ slots + 6 ≤ R.slots) (hlocks : meth.locks = false)
    (hxc : ∀ t : State, H.size ≤ t.heap.size → (∀ q : Nat, q < H.size → t.heap[q]? = H[q]?) → XC cls s t) (hf : ∀ z ∈ locs, free z.base) (hc : cells + 1 ≤ mc) (hs : slots + 6 ≤ ms) :
    W p l e R s m args below meth c H locs cells slots (vx_MQ below Qc XC args s mc ms free) (F0 m pc ls rest) := by
  have hts := hC.2.1.hts args
  have h0 : ∀ w ∈ Cond.initialized cls :: vx_atS own ic cls ["java/lang/RuntimeException", "java/lang/Exception"], w.before args s = true := tx_stb hC.2.1 fun w hw => (htx w hw).1
  have hg : ∀ w ∈ Cond.classLink own ik cls :: Cond.initialized cls :: vx_atS own ic cls ["java/lang/RuntimeException", "java/lang/Exception"], vx_ot w = true := fun w hw => by
    rcases List.mem_cons.mp hw with q | q
    · rw [q]; exact vx_ot_cl
    · exact (htx w q).2
  have hn : ∀ n ∈ ["java/lang/RuntimeException", "java/lang/Exception"], Bundle.fit n = true := by decide
  have hU := hC.2.2.1.2.2.2.2.2.1.narrow hAb
  have hN := hC.2.2.1.2.2.2.2.2.2.narrow hAb
  rcases hw with ⟨d4, d6, d9⟩ | ⟨d4, d7, d10⟩
  · exact vx_throwS hx hb hst hown hcls hn (hts _ hk) (h0 _ List.mem_cons_self) (hC.2.2.2.2.1 j _ hstr) (fun w hw => h0 w (List.mem_cons_of_mem _ hw)) hg hU hN hS hsize d0 d3 d4 d6 d9 (fun x q => (hout x q).elim) hR.1 hR.2.1 hR.2.2.1 hR.2.2.2 hlocks (fun t _ h1 h2 => hxc t h1 h2) hf hc hs
  · exact vx_throwSW hx hb hst hown hcls hn (hts _ hk) (h0 _ List.mem_cons_self) (hC.2.2.2.2.1 j _ hstr) (fun w hw => h0 w (List.mem_cons_of_mem _ hw)) hg hU hN hS hsize d0 d3 d4 d7 d10 (fun x q => (hout x q).elim) hR.1 hR.2.1 hR.2.2.1 hR.2.2.2 hlocks (fun t _ h1 h2 => hxc t h1 h2) hf hc hs
/-- in a body that only read, of answer k -/
theorem ex_throwR {Qc : Array Value → State → Outcome → State → Prop} {k : Nat} {xs : Nat → String} (hx : p.tables.exec = Jvm.exec) (hb : c.code = cc) (hst : l.stackTraces = false) (hC : Cs E s) (hU : s.heap = H) (hown : s.vm.findClass own = some m.cls) {cls text : String} {ik is ic j : Nat} (hk : .classLink own ik cls ∈ WG) (htx : TX own ic cls) (hcls : Bundle.fit cls = true) (hstr : strl[j]? = some (own, is, text))
    (hsize : ls.size = c.maxLocals) (hw : (decode cc (pc + 4) = .ok (.ldc is, 2) ∧ decode cc (pc + 6) = .ok (.invokespecial ic, 3) ∧ decode cc (pc + 9) = .ok (.athrow, 1)) ∨ (decode cc (pc + 4) = .ok (.ldc_w is, 3) ∧ decode cc (pc + 7) = .ok (.invokespecial ic, 3) ∧ decode cc (pc + 10) = .ok (.athrow, 1)))
    (d0 : decode cc pc = .ok (.new ik, 3)) (d3 : decode cc (pc + 3) = .ok (.dup, 1)) (hout : ∀ x ∈ c.exceptionTable.toList, False) {f lo : Nat} (hR : 5 < f ∧ (rest.map fun v => v.category).sum + 82 ≤ lo) (hlocks : meth.locks = false) (hkx : k ≠ 0 ∧ cls = xs k) :
    W p l e (rmk f (mcX k) (msX k) lo) s m args below meth c H [] 0 0 (vx_MQ below Qc (XCX k xs) args s (mcX k) (msX k) noA) (F0 m pc ls rest) := by
  have hS : va_S noA s.heap H [] := by rw [hU]; exact va_S.rf
  have e1 := mcX_n hkx.1
  have e2 := msX_n hkx.1
  refine ex_throw hx hb hst hC hS (fun _ h => h.elim) hown hk htx hcls hstr hsize hw d0 d3 hout ⟨hR.1, hR.2, by show 0 + 1 ≤ mcX k; omega, by show 0 + 6 ≤ msX k; omega⟩ hlocks (fun t h1 h2 => ⟨hkx.1, hkx.2, ?_⟩) (fun _ h => absurd h List.not_mem_nil) (by omega) (by omega)
  subst hU
  exact ⟨h1, fun q hq _ => h2 q hq⟩
theorem run_ex {g : JFrame} {k : Nat} {xs : Nat → String} {Qa : State → Outcome → State → Prop} (hr : vx_Run p l e R s m args below meth c H locs cells slots (mcX k) (msX k) g rest Qa (XCX k xs) noA)
    (kx : k ≠ 0 → ∀ (q9 : Addr) (ce : Cell) (t : State), va_S noA H t.heap [] → s.vm.Alike t.vm → t.heap[q9]? = some ce → ce.vm = .none → s.vm.findClass (xs k) = some ce.cls → vx_W p l e R s m args below meth c t.heap locs (cells + mcX k) (slots + msX k) Q { g with stack := rest } q9)
    (kk : ∀ (v : Option Value) (st₀ t : State), st₀.heap = H → Qa st₀ (.returned v) t → k = 0 ∧ t.heap = H ∧ W p l e R s m args below meth c H locs cells slots Q { g with pc := g.pc + 3, stack := v.toList ++ rest }) : W p l e R s m args below meth c H locs cells slots Q g := by
  intro T hT X
  rcases hr T hT X with ⟨v, st₀, t, T', L, h0, X', hL, e1, e2, hq, st⟩ | ⟨q, st₀, t, T', L, Ex, ce, h0, X', hL, e1, e2, hxc, hce, hcv, hcl, st⟩
  · have hL0 : L = [] := List.eq_nil_iff_forall_not_mem.mpr fun q hq => hL q hq
    subst hL0
    rw [List.append_nil] at X'
    obtain ⟨k0, k1, k2⟩ := kk v st₀ t h0 hq
    subst k0
    obtain ⟨t2, a1, b1⟩ := k2 T' (e1.trans k1) X'
    exact ⟨t2, st t2 a1, b1⟩
  · have hL0 : L = [] := List.eq_nil_iff_forall_not_mem.mpr fun q hq => hL q hq
    subst hL0
    rw [List.append_nil] at X'
    obtain ⟨hk, he, hF⟩ := hxc
    subst he
    obtain ⟨f1, f2⟩ := hF
    rw [h0] at f1 f2
    obtain ⟨t2, a1, b1⟩ := kx hk q ce t ⟨f1, f2, fun _ h => absurd h List.not_mem_nil⟩ (by rw [← e2]; exact X'.warmed.alike) hce hcv hcl T' e1 X'
    exact ⟨t2, st.trans a1, b1⟩
/-- an instance method that may throw, in a body that lets it through -/
theorem ex_V {As : List Value} {h0 : Nat} {v : Int32} {nn f lo k kA f0 lo0 : Nat} {xs xsA : Nat → String} {Qc : Array Value → State → Outcome → State → Prop} (hx : p.tables.exec = Jvm.exec) (hb : c.code = cc) (hml : c.maxLocals = nL) (hown : s.vm.findClass own = some m.cls) (hlocks : meth.locks = false) (hout : ∀ x ∈ c.exceptionTable.toList, False) (hC : Cs E s) (hU : s.heap = H)
    (hM : ExI l y b maxL rt f lo (.ref h0 :: As) E H k xs v) (hK : KV own index C y b maxL (some rt) nn) (hR : f + 1 ≤ f0 ∧ 8 + (maxL + 11) + lo ≤ lo0) (hkA : k ≠ 0 → kA ≠ 0 ∧ xs k = xsA kA) (hrecv : ∃ cellB : Cell, H[h0]? = some cellB ∧ cellB.vm.isStatics = false ∧ s.vm.findClass C = some cellB.cls) (hn : As.length = nn) {lv : List (Nat × Value)} (hl : lv_has ls nL lv) (hr8 : (rest.map fun v => v.category).sum ≤ 8) (hdg : decode cc pc = .ok (.invokevirtual index, 3))
    (kk : k = 0 → W p l e (rmk f0 (mcX kA) (msX kA) lo0) s m args below meth c H [] 0 0 (vx_MQ below Qc (XCX kA xsA) args s (mcX kA) (msX kA) noA) (F0 m (pc + 3) ls (.int v :: rest))) : W p l e (rmk f0 (mcX kA) (msX kA) lo0) s m args below meth c H [] 0 0 (vx_MQ below Qc (XCX kA xsA) args s (mcX kA) (msX kA) noA) (F0 m pc ls (As.reverse ++ .ref h0 :: rest)) := by
  have hts := hC.2.1.hts args
  have hS : va_S noA s.heap H [] := by rw [hU]; exact va_S.rf
  have hm : mcX k ≤ mcX kA ∧ msX k ≤ msX kA := by
    by_cases q : k = 0
    · rw [q]; exact ⟨Nat.zero_le _, Nat.zero_le _⟩
    · rw [mcX_n q, msX_n q, mcX_n (hkA q).1, msX_n (hkA q).1]; exact ⟨Nat.le_refl _, Nat.le_refl _⟩
  refine run_ex (k := k) (xs := xs) (vx_runV (As := As) (rest := rest) ⟨hx, hb, hml, hown, hts⟩ hM (cwV nn hts hK.1 rfl rfl rfl hK.2 hR) ⟨PcR.blind, hrecv, fun U hU2 hW => ⟨rfl, hU2, hC.go hW hU2 hS (fun _ h => h.elim)⟩⟩ rfl hn hl.1 rfl (lv_room hr8) hdg ⟨by show 0 + mcX k ≤ mcX kA; omega, by show 0 + msX k ≤ msX kA; omega⟩) (fun hk q9 ce t hS2 hal hce hcv hcl => ?_) ?_
  · refine vx_out (fun x q => (hout x q).elim) hlocks hce hcv (hcl.trans rfl) (fun t2 ht2 _ => ⟨(hkA hk).1, (hkA hk).2, ?_⟩) (fun _ h => absurd h List.not_mem_nil) (by omega) (by omega)
    rw [← hU] at hS2
    exact ⟨by rw [ht2]; exact hS2.1, fun q h1 h2 => by rw [ht2]; exact hS2.2.1 q h1 h2⟩
  · intro w st₀ t h1 hq
    obtain ⟨⟨r, u, h2, ⟨h3, h4⟩, h5⟩, -⟩ := hq
    cases h2
    subst h4
    exact ⟨h3, h5, kk h3⟩
/-- the same with a reference as its answer -/
theorem ex_VR {As : List Value} {h0 v nn f lo k kA f0 lo0 : Nat} {xs xsA : Nat → String} {Qc : Array Value → State → Outcome → State → Prop} (hx : p.tables.exec = Jvm.exec) (hb : c.code = cc) (hml : c.maxLocals = nL) (hown : s.vm.findClass own = some m.cls) (hlocks : meth.locks = false) (hout : ∀ x ∈ c.exceptionTable.toList, False) (hC : Cs E s) (hU : s.heap = H)
    (hM : ExR l y b maxL rt f lo (.ref h0 :: As) E H k xs v) (hK : KV own index C y b maxL (some rt) nn) (hR : f + 1 ≤ f0 ∧ 8 + (maxL + 11) + lo ≤ lo0) (hkA : k ≠ 0 → kA ≠ 0 ∧ xs k = xsA kA) (hrecv : ∃ cellB : Cell, H[h0]? = some cellB ∧ cellB.vm.isStatics = false ∧ s.vm.findClass C = some cellB.cls) (hn : As.length = nn) {lv : List (Nat × Value)} (hl : lv_has ls nL lv) (hr8 : (rest.map fun v => v.category).sum ≤ 8) (hdg : decode cc pc = .ok (.invokevirtual index, 3))
    (kk : k = 0 → W p l e (rmk f0 (mcX kA) (msX kA) lo0) s m args below meth c H [] 0 0 (vx_MQ below Qc (XCX kA xsA) args s (mcX kA) (msX kA) noA) (F0 m (pc + 3) ls (.ref v :: rest))) : W p l e (rmk f0 (mcX kA) (msX kA) lo0) s m args below meth c H [] 0 0 (vx_MQ below Qc (XCX kA xsA) args s (mcX kA) (msX kA) noA) (F0 m pc ls (As.reverse ++ .ref h0 :: rest)) := by
  have hts := hC.2.1.hts args
  have hS : va_S noA s.heap H [] := by rw [hU]; exact va_S.rf
  have hm : mcX k ≤ mcX kA ∧ msX k ≤ msX kA := by
    by_cases q : k = 0
    · rw [q]; exact ⟨Nat.zero_le _, Nat.zero_le _⟩
    · rw [mcX_n q, msX_n q, mcX_n (hkA q).1, msX_n (hkA q).1]; exact ⟨Nat.le_refl _, Nat.le_refl _⟩
  refine run_ex (k := k) (xs := xs) (vx_runV (As := As) (rest := rest) ⟨hx, hb, hml, hown, hts⟩ hM (cwV nn hts hK.1 rfl rfl rfl hK.2 hR) ⟨PcR.blind, hrecv, fun U hU2 hW => ⟨rfl, hU2, hC.go hW hU2 hS (fun _ h => h.elim)⟩⟩ rfl hn hl.1 rfl (lv_room hr8) hdg ⟨by show 0 + mcX k ≤ mcX kA; omega, by show 0 + msX k ≤ msX kA; omega⟩) (fun hk q9 ce t hS2 hal hce hcv hcl => ?_) ?_
  · refine vx_out (fun x q => (hout x q).elim) hlocks hce hcv (hcl.trans rfl) (fun t2 ht2 _ => ⟨(hkA hk).1, (hkA hk).2, ?_⟩) (fun _ h => absurd h List.not_mem_nil) (by omega) (by omega)
    rw [← hU] at hS2
    exact ⟨by rw [ht2]; exact hS2.1, fun q h1 h2 => by rw [ht2]; exact hS2.2.1 q h1 h2⟩
  · intro w st₀ t h1 hq
    obtain ⟨h2, h3, h5, -⟩ := hq
    cases h2
    exact ⟨h3, h5, kk h3⟩
theorem ex_iret {k : Nat} {xs : Nat → String} {v x : Int32} {R : Room} (hx : p.tables.exec = Jvm.exec) (hb : c.code = cc) (hr : meth.sig.returnType = some .int) (hlocks : meth.locks = false) (hH : s.heap = H) (hk : k = 0) (hv : x = v) (hdg : decode cc pc = .ok (.ireturn, 1)) : W p l e R s m args below meth c H [] 0 0 (vx_MQ below (QiX k v H) (XCX k xs) args s (mcX k) (msX k) noA) (F0 m pc ls [.int x]) := by
  subst hv; subst hk
  exact vx_ret (W.iret hx hb hr (fun t ht hW => ⟨⟨x, (), rfl, ⟨rfl, rfl⟩, ht⟩, (va_S.rf (A := noA) (H0 := s.heap)).F (ht.trans hH.symm)⟩) (fun q hq => absurd hq List.not_mem_nil) hdg)
theorem ex_zretB {k : Nat} {xs : Nat → String} {x : Int32} {b1 b2 : Bool} {R : Room} (hx : p.tables.exec = Jvm.exec) (hb : c.code = cc) (hr : meth.sig.returnType = some .boolean) (hlocks : meth.locks = false) (hH : s.heap = H) (hk : k = 0) (h1 : x = bI b1) (hv : b1 = b2) (hdg : decode cc pc = .ok (.ireturn, 1)) : W p l e R s m args below meth c H [] 0 0 (vx_MQ below (QiX k (bI b2) H) (XCX k xs) args s (mcX k) (msX k) noA) (F0 m pc ls [.int x]) := by
  subst h1; subst hk; subst hv
  exact vx_ret (W.zret hx hb hr (bI_nar b1) (fun t ht hW => ⟨⟨_, (), rfl, ⟨rfl, rfl⟩, ht⟩, (va_S.rf (A := noA) (H0 := s.heap)).F (ht.trans hH.symm)⟩) (fun q hq => absurd hq List.not_mem_nil) hdg)
theorem ex_aret {k : Nat} {xs : Nat → String} {v x : Nat} {nm : String} {R : Room} (hx : p.tables.exec = Jvm.exec) (hb : c.code = cc) (hr : meth.sig.returnType = some (.object nm)) (hlocks : meth.locks = false) (hH : s.heap = H) (hk : k = 0) (hv : x = v) (hdg : decode cc pc = .ok (.areturn, 1)) : W p l e R s m args below meth c H [] 0 0 (vx_MQ below (QrX k v H) (XCX k xs) args s (mcX k) (msX k) noA) (F0 m pc ls [.ref x]) := by
  subst hv; subst hk
  exact vx_ret (W.aret hx hb hr (Or.inl ⟨_, rfl⟩) (Or.inr ⟨x, rfl⟩) (fun t ht hW => ⟨rfl, rfl, ht, (va_S.rf (A := noA) (H0 := s.heap)).F (ht.trans hH.symm)⟩) (fun q hq => absurd hq List.not_mem_nil) hdg)
end EXB
