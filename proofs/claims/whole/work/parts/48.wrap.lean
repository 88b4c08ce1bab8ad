/-! the law's own methods: the class's call, its exceptions caught -/
def NcS (U : State) : Prop := va_Nc xIA xIO U ∧ va_Nc xIS xIA U ∧ va_Nc xIS xIO U
theorem NcS.moved {u U : State} (hvm : u.vm.Alike U.vm) (h : NcS u) : NcS U := ⟨h.1.moved hvm, h.2.1.moved hvm, h.2.2.moved hvm⟩
abbrev PcL (av : List Value) (E : En) (H : Heap) : Array Value → State → Prop := va_Pc av (fun U => U.heap = H ∧ Cs E U ∧ NcS U)
theorem PcL.blind {av : List Value} {E : En} {H : Heap} : FrameBlind (PcL av E H) := fun a U g mk q => by
  obtain ⟨q0, q1, q2, q3⟩ := q
  exact ⟨q0, q1, q2.calling g mk a, q3⟩
abbrev LwI (l : Launch) (y : MethodName) (b : ByteArray) (n : Nat) (hh : List (Nat × Nat × Nat × Nat)) (rm : Room) (av : List Value) (E : En) (H : Heap) (v : Int32) (B : Heap → Prop) (A1 : Nat → Prop) (mc ms : Nat) : Prop := Met l y [.codeWith y b n (some .int) hh] rm (PcL av E H) (QiM v B A1) mc ms A1
/-- the out array -/
def oO (E : En) (o : Nat) (v : Int64) (H : Heap) : Prop := H[o]? = some (vp_cell (E.2 4) (1, .inr (.inl (fun _ => v))))
/-- what a wrapper may write -/
def aO (L : List Nat) (o : Nat) (H : Heap) : Nat → Prop := fun q => q ∈ L ∨ q = o ∨ H.size ≤ q
/-- the class's city, grown, and the answer written -/
def oB (sz : Nat) (E : En) (c : Cy) (L : List Nat) (x o : Nat) (v : Int64) : Heap → Prop := fun H1 => oO E o v H1 ∧ ∃ (L2 : List Nat) (ly2 : Ly) (ad2 : Nat → Nat → Nat), PX E c ly2 L2 ad2 H1 ∧ ad2 0 0 = x ∧ (∀ q, q ∈ L2 → q ∈ L ∨ sz ≤ q)
section LWA
variable {l : Launch} {E : En} {y : MethodName} {rm : Room} {Qc : Array Value → State → Outcome → State → Prop} {free : Addr → Prop} {cc : ByteArray} {maxL : Nat} {ret : Option FieldType} {av : List Value} {H : Heap} {mc ms : Nat} {hh : List (Nat × Nat × Nat × Nat)}
/-- the way into a body with handlers -/
theorem lw_of (hy : plainName y.cls = true) (hlen : (lg_sl av).length ≤ maxL)
    (body : ∀ (p : Program) (e : Env) (s : State) (m : MethodId) (below : List Frame) (meth : Method) (c : Code) (ls : Array Slot), p.tables.exec = Jvm.exec → c.code = cc → meth.sig.returnType = ret → c.maxLocals = maxL → s.vm.findClass y.cls = some m.cls → meth.locks = false → c.exceptionTable.toList = tableOf hh → Cs E s → NcS s → s.heap = H → lv_has ls maxL (lv_args 0 av) →
      W p l e rm s m av.toArray below meth c H [] 0 0 (MQ below Qc av.toArray s mc ms free) (F0 m 0 ls [])) : Met l y [.codeWith y cc maxL ret hh] rm (PcL av E H) Qc mc ms free := by
  refine MetFree.of_bodyS (code := cc) (maxLocals := maxL) (ret := ret) hy ?_ ?_
  · intro args s m h hn
    obtain ⟨m9, meth, c, hn9, h1, h2, h3, h4, -, h5, h6, -⟩ := Cond.codeWith_spec (atoms_spec (ws := [.codeWith y cc maxL ret hh]) h _ List.mem_cons_self)
    cases hn.symm.trans hn9
    exact ⟨meth, c, h1, h2, h3, h4, h5, h6⟩
  · intro p e s m args below meth c s₁ B hml hP _
    have hh0 : s₁.heap = s.heap := by rw [B.state]; rfl
    have ht : c.exceptionTable.toList = tableOf hh := vx_table (x := y) B (atoms_spec (ws := [.codeWith y cc maxL ret hh]) B.pre _ List.mem_cons_self)
    obtain ⟨rfl, hU, hC, hN⟩ := hP
    have hl := lv_entry av (n := maxL) hlen
    have h := body p e s m below meth c _ B.exec B.bytes B.returns hml (findClass_of_methodNamed B.named) B.notSynchronized ht hC hN hU hl
    rw [← hU] at h
    rw [← lg_entry_eq] at h
    obtain ⟨t, a1, o, b1, b2, b3⟩ := h s₁ hh0 (Stand.of_body B)
    exact ⟨t, o, a1, b1, b2, b3⟩
end LWA
section LWB
variable {p : Program} {l : Launch} {e : Env} {R : Room} {s : State} {m : MethodId} {args : Array Value} {below : List Frame} {meth : Method} {c : Code} {H H0 : Heap} {locs : List Loc} {cells slots : Nat} {Q : State → Prop}
variable {cc : ByteArray} {pc nL : Nat} {ls : Array Slot} {rest : List Value} {E : En} {A : Nat → Prop}
variable {y : MethodName} {b : ByteArray} {maxL n index : Nat} {rt : FieldType} {rm : Room} {own C : String}
/-- a call that throws -/
theorem lw_throw {As : List Value} {h0 : Nat} {v : Int32} {nn f lo : Nat} {xs : Nat → String} (hx : p.tables.exec = Jvm.exec) (hb : c.code = cc) (hml : c.maxLocals = nL) (hown : s.vm.findClass own = some m.cls) (hC : Cs E s) (hU : s.heap = H)
    (hM : ExI l y b maxL rt f lo (.ref h0 :: As) E H 1 xs v) (hK : KV own index C y b maxL (some rt) nn) (hR : f + 1 ≤ R.frames ∧ 8 + (maxL + 11) + lo ≤ R.locals) (hcs : cells + 1 ≤ R.cells ∧ slots + 6 ≤ R.slots) (hrecv : ∃ cellB : Cell, H[h0]? = some cellB ∧ cellB.vm.isStatics = false ∧ s.vm.findClass C = some cellB.cls) (hn : As.length = nn) {lv : List (Nat × Value)} (hl : lv_has ls nL lv) (hr8 : (rest.map fun v => v.category).sum ≤ 8) (hdg : decode cc pc = .ok (.invokevirtual index, 3))
    (kx : ∀ (q9 : Addr) (ce : Cell) (H1 : Heap), va_S noA H H1 [] → H1[q9]? = some ce → ce.vm = .none → s.vm.findClass (xs 1) = some ce.cls → vx_W p l e R s m args below meth c H1 [] (cells + 1) (slots + 6) Q (F0 m pc ls rest) q9) : W p l e R s m args below meth c H [] cells slots Q (F0 m pc ls (As.reverse ++ .ref h0 :: rest)) := by
  have hts := hC.2.1.hts args
  have hS : va_S noA s.heap H [] := by rw [hU]; exact va_S.rf
  refine run_ex (k := 1) (xs := xs) (vx_runV (As := As) (rest := rest) ⟨hx, hb, hml, hown, hts⟩ hM (cwV nn hts hK.1 rfl rfl rfl hK.2 hR) ⟨PcR.blind, hrecv, fun U hU2 hW => ⟨rfl, hU2, hC.go hW hU2 hS (fun _ h => h.elim)⟩⟩ rfl hn hl.1 rfl (lv_room hr8) hdg hcs) (fun _ q9 ce t hS2 _ hce hcv hcl => kx q9 ce t.heap hS2 hce hcv hcl) ?_
  intro w st₀ t h1 hq
  obtain ⟨⟨r, u, h2, ⟨h3, h4⟩, h5⟩, -⟩ := hq
  exact absurd h3 (by decide)
/-- the answer written -/
theorem lw_last {o : Nat} {w x : Int64} (hx : p.tables.exec = Jvm.exec) (hb : c.code = cc) (hC : Cs E s) (hO : oO E o w H) (hS : va_S A H0 H locs) (hAo : A o) (hdg : decode cc pc = .ok (.lastore, 1))
    (kk : ∀ (H1 : Heap) (locs1 : List Loc), oO E o x H1 → H.size ≤ H1.size → (∀ q : Nat, q ≠ o → H1[q]? = H[q]?) → va_S A H0 H1 locs1 → W p l e R s m args below meth c H1 locs1 cells slots Q (F0 m (pc + 1) ls rest)) : W p l e R s m args below meth c H locs cells slots Q (F0 m pc ls (.long x :: .int (nI 0) :: .ref o :: rest)) := by
  have e0 : (nI 0).toNatClampNeg = 0 := nI_clamp (by decide)
  have hin : vp_in (nI 0) 1 := vp_in_nI (by decide) (by decide)
  refine W.last hx hb hO ((hC.1.2 3 (E.2 4, .long) rfl).1 1 (fun j => .long ((fun _ => w) j))) (fun q => by cases q) (by show ¬ (nI 0 < 0 ∨ (arrV _ _ _).slots.size ≤ _); rw [arrV_size]; exact hin) rfl rfl hdg fun H1 e1 z oq => ?_
  refine kk H1 _ ?_ (Nat.le_of_eq z.symm) (fun q hq => oq q hq) (hS.put z oq hAo)
  show H1[o]? = some _
  rw [e1, e0]
  rfl
end LWB
def bL (b : Bool) : Int64 := if b = true then 1 else 0
section CSX
variable {E : En}
theorem cs_xIA {s : State} {args : Array Value} (h : Cs E s) : (Cond.castable xIA xIA).before args s = true := va_Nw.use rfl (wn_t 218 (w := .castable xIA xIA) (by decide +kernel) (by decide +kernel) h.2.1)
theorem cs_xIO {s : State} {args : Array Value} (h : Cs E s) : (Cond.castable xIO xIO).before args s = true := va_Nw.use rfl (wn_t 305 (w := .castable xIO xIO) (by decide +kernel) (by decide +kernel) h.2.1)
theorem cs_xIS {s : State} {args : Array Value} (h : Cs E s) : (Cond.castable xIS xIS).before args s = true := va_Nw.use rfl (wn_t 438 (w := .castable xIS xIS) (by decide +kernel) (by decide +kernel) h.2.1)
end CSX
set_option maxHeartbeats 4000000 in
set_option maxRecDepth 100000 in
theorem mL_wall_b1 (l : Launch) (hst : l.stackTraces = false) {E : En} {c : Cy} {ly : Ly} {L : List Nat} {ad : Nat → Nat → Nat} {H0 : Heap} (hX : PX E c ly L ad H0) {out : Nat} {w9 : Int64} (hO : oO E out w9 H0) (hoL : out ∉ L) (hob : bA E out) (a b o v : Int32) (ha : walOK a b o v = false) : LwI l yL_wall cL_wall 7 [(0, 14, 17, 13), (0, 14, 21, 15)] (rmk 7 1 6 116) [.ref (ad 0 0), .int a, .int b, .int o, .int v, .ref out] E H0 (nI 1) (oB H0.size E c L (ad 0 0) out w9) (aO L out H0) 1 6 := by
  obtain ⟨hP, hly, hLb, wf⟩ := id hX
  have hlt : out < H0.size := (Array.getElem?_eq_some_iff.mp hO).1
  refine lw_of (by decide) (Nat.le_of_ble_eq_true rfl) ?_
  intro p e s m below meth co ls hx hb hr hml hown hlocks htab hC hNc hU hl
  have hS : va_S (aO L out H0) s.heap H0 [] := by rw [hU]; exact va_S.rf
  have hA : ∀ q, q ∈ L → aO L out H0 q := fun q h => Or.inl h
  have hN : ∀ q, s.heap.size ≤ q → aO L out H0 q := fun q h => Or.inr (Or.inr (by rw [← hU]; exact h))
  have hAb : ∀ q, aO L out H0 q → bA E q := fun q h => h.elim (hLb q) (fun h => h.elim (fun h => by rw [h]; exact hob) (fun z => Nat.le_trans hC.2.2.2.1 (by rw [hU]; exact z)))
  have hl : lv_has ls 7 [(0, .ref (ad 0 0)), (1, .int a), (2, .int b), (3, .int o), (4, .int v), (5, .ref out)] := hl
  refine lv_aload hx hb dL_wall_0 (lv_at hl 5 rfl) ?_
  refine lv_iconstN hx hb 0 dL_wall_2 (by decide) ?_
  refine lv_aload_n hx hb dL_wall_3 rfl (lv_at hl 0 rfl) ?_
  refine lv_iload_n hx hb dL_wall_4 rfl (lv_at hl 1 rfl) ?_
  refine lv_iload_n hx hb dL_wall_5 rfl (lv_at hl 2 rfl) ?_
  refine lv_iload_n hx hb dL_wall_6 rfl (lv_at hl 3 rfl) ?_
  refine lv_iload hx hb dL_wall_7 (lv_at hl 4 rfl) ?_
  refine lw_throw (As := [.int a, .int b, .int o, .int v]) (h0 := ad 0 0) (rest := [.int (nI 0), .ref out]) hx hb hml hown hC hU (mX3_wall_b1 l hst hX a b o v ha) kV_L_7 ⟨Nat.le_of_ble_eq_true rfl, Nat.le_of_ble_eq_true rfl⟩ ⟨Nat.le_of_ble_eq_true rfl, Nat.le_of_ble_eq_true rfl⟩ (hP.recv hC cX_0 rfl) rfl hl (Nat.le_of_ble_eq_true rfl) dL_wall_9 (fun q9 ce H hS2 hce hcv hcl => ?_)
  have hS : va_S (aO L out H0) s.heap H [] := by rw [hU]; exact ⟨hS2.1, fun q h1 _ => hS2.2.1 q h1 (fun z => z), fun _ h => absurd h List.not_mem_nil⟩
  have hX := hX.kept (fun q h1 _ => hS2.2.1 q h1 (fun z => z))
  have hO : oO E out w9 H := (hS2.2.1 out hlt (fun z => z)).trans hO
  refine vx_catch hown (tableOf []) ⟨0, 14, 17, 13⟩ (tableOf [(0, 14, 21, 15)]) (htab.trans rfl) (fun z hz => absurd hz List.not_mem_nil) rfl (by decide) (hC.2.1.hts _ _ wCl_L_13) (cs_xIA hC) hce hcv hcl ?_
  refine lv_astore (lv' := [(6, .ref q9), (0, .ref (ad 0 0)), (1, .int a), (2, .int b), (3, .int o), (4, .int v), (5, .ref out)]) hx hb dL_wall_17 hl (by decide) rfl (fun ls hl => ?_)
  refine lv_iconstN hx hb 1 dL_wall_19 (by decide) ?_
  refine W.widen (k := 1) (n := 6) (by omega) (by omega) ?_
  exact mu_iret (x := nI 1) hx hb hr hlocks hS ⟨hO, ⟨L, ly, ad, hX, rfl, fun q h => Or.inl h⟩⟩ rfl dL_wall_20
set_option maxHeartbeats 4000000 in
set_option maxRecDepth 100000 in
theorem mL_wall_b2 (l : Launch) (hst : l.stackTraces = false) {E : En} {c : Cy} {ly : Ly} {L : List Nat} {ad : Nat → Nat → Nat} {H0 : Heap} (hX : PX E c ly L ad H0) {out : Nat} {w9 : Int64} (hO : oO E out w9 H0) (hoL : out ∉ L) (hob : bA E out) (a b o v : Int32) (ha : walOK a b o v = true) (hs : 6 ≤ c.R 10 0) : LwI l yL_wall cL_wall 7 [(0, 14, 17, 13), (0, 14, 21, 15)] (rmk 7 1 6 116) [.ref (ad 0 0), .int a, .int b, .int o, .int v, .ref out] E H0 (nI 2) (oB H0.size E c L (ad 0 0) out w9) (aO L out H0) 1 6 := by
  obtain ⟨hP, hly, hLb, wf⟩ := id hX
  have hlt : out < H0.size := (Array.getElem?_eq_some_iff.mp hO).1
  refine lw_of (by decide) (Nat.le_of_ble_eq_true rfl) ?_
  intro p e s m below meth co ls hx hb hr hml hown hlocks htab hC hNc hU hl
  have hS : va_S (aO L out H0) s.heap H0 [] := by rw [hU]; exact va_S.rf
  have hA : ∀ q, q ∈ L → aO L out H0 q := fun q h => Or.inl h
  have hN : ∀ q, s.heap.size ≤ q → aO L out H0 q := fun q h => Or.inr (Or.inr (by rw [← hU]; exact h))
  have hAb : ∀ q, aO L out H0 q → bA E q := fun q h => h.elim (hLb q) (fun h => h.elim (fun h => by rw [h]; exact hob) (fun z => Nat.le_trans hC.2.2.2.1 (by rw [hU]; exact z)))
  have hl : lv_has ls 7 [(0, .ref (ad 0 0)), (1, .int a), (2, .int b), (3, .int o), (4, .int v), (5, .ref out)] := hl
  refine lv_aload hx hb dL_wall_0 (lv_at hl 5 rfl) ?_
  refine lv_iconstN hx hb 0 dL_wall_2 (by decide) ?_
  refine lv_aload_n hx hb dL_wall_3 rfl (lv_at hl 0 rfl) ?_
  refine lv_iload_n hx hb dL_wall_4 rfl (lv_at hl 1 rfl) ?_
  refine lv_iload_n hx hb dL_wall_5 rfl (lv_at hl 2 rfl) ?_
  refine lv_iload_n hx hb dL_wall_6 rfl (lv_at hl 3 rfl) ?_
  refine lv_iload hx hb dL_wall_7 (lv_at hl 4 rfl) ?_
  refine lw_throw (As := [.int a, .int b, .int o, .int v]) (h0 := ad 0 0) (rest := [.int (nI 0), .ref out]) hx hb hml hown hC hU (mX3_wall_b2 l hst hX a b o v ha hs) kV_L_7 ⟨Nat.le_of_ble_eq_true rfl, Nat.le_of_ble_eq_true rfl⟩ ⟨Nat.le_of_ble_eq_true rfl, Nat.le_of_ble_eq_true rfl⟩ (hP.recv hC cX_0 rfl) rfl hl (Nat.le_of_ble_eq_true rfl) dL_wall_9 (fun q9 ce H hS2 hce hcv hcl => ?_)
  have hS : va_S (aO L out H0) s.heap H [] := by rw [hU]; exact ⟨hS2.1, fun q h1 _ => hS2.2.1 q h1 (fun z => z), fun _ h => absurd h List.not_mem_nil⟩
  have hX := hX.kept (fun q h1 _ => hS2.2.1 q h1 (fun z => z))
  have hO : oO E out w9 H := (hS2.2.1 out hlt (fun z => z)).trans hO
  refine vx_catch hown (tableOf [(0, 14, 17, 13)]) ⟨0, 14, 21, 15⟩ (tableOf []) (htab.trans rfl) (fun z hz => by rw [List.mem_singleton.mp hz]; exact Or.inr ⟨by decide, xIA, hC.2.1.hts _ _ wCl_L_13, hNc.2.1⟩) rfl (by decide) (hC.2.1.hts _ _ wCl_L_15) (cs_xIS hC) hce hcv hcl ?_
  refine lv_astore (lv' := [(6, .ref q9), (0, .ref (ad 0 0)), (1, .int a), (2, .int b), (3, .int o), (4, .int v), (5, .ref out)]) hx hb dL_wall_21 hl (by decide) rfl (fun ls hl => ?_)
  refine lv_iconstN hx hb 2 dL_wall_23 (by decide) ?_
  refine W.widen (k := 1) (n := 6) (by omega) (by omega) ?_
  exact mu_iret (x := nI 2) hx hb hr hlocks hS ⟨hO, ⟨L, ly, ad, hX, rfl, fun q h => Or.inl h⟩⟩ rfl dL_wall_24
set_option maxHeartbeats 4000000 in
set_option maxRecDepth 100000 in
theorem mL_wall_g (l : Launch) {E : En} {c : Cy} {ly : Ly} {L : List Nat} {ad : Nat → Nat → Nat} {H0 : Heap} (hX : PX E c ly L ad H0) {out : Nat} {w9 : Int64} (hO : oO E out w9 H0) (hoL : out ∉ L) (hob : bA E out) (w cl : Nat) (sg ow : Int32) (hw : 4 ≤ w) (hw2 : w ≤ 16) (hg : ∃ q : Nat, 1 ≤ q ∧ q ≤ 9 ∧ sg = nI q) (hg2 : isInS sg (nI 1) (nI 9) = true) (ho : isInS ow (nI 0) (nI 3) = true) (hc : cl = 0 ∨ 2 ≤ cl) (hc2 : cl ≤ 20) (hs : c.R 10 0 < 6) (heq : c.R 10 0 = c.R 11 0) : LwI l yL_wall cL_wall 7 [(0, 14, 17, 13), (0, 14, 21, 15)] (rmk 8 3 226 227) [.ref (ad 0 0), .int (nI w), .int sg, .int ow, .int (nI cl), .ref out] E H0 (nI 0) (oB H0.size E (lsC (mkW c w cl sg ow) 0) L (ad 0 0) out ((nI (c.R 10 0)).toInt64)) (aO L out H0) 3 226 := by
  obtain ⟨hP, hly, hLb, wf⟩ := id hX
  have hlt : out < H0.size := (Array.getElem?_eq_some_iff.mp hO).1
  refine lw_of (by decide) (Nat.le_of_ble_eq_true rfl) ?_
  intro p e s m below meth co ls hx hb hr hml hown hlocks htab hC hNc hU hl
  have hS : va_S (aO L out H0) s.heap H0 [] := by rw [hU]; exact va_S.rf
  have hA : ∀ q, q ∈ L → aO L out H0 q := fun q h => Or.inl h
  have hN : ∀ q, s.heap.size ≤ q → aO L out H0 q := fun q h => Or.inr (Or.inr (by rw [← hU]; exact h))
  have hAb : ∀ q, aO L out H0 q → bA E q := fun q h => h.elim (hLb q) (fun h => h.elim (fun h => by rw [h]; exact hob) (fun z => Nat.le_trans hC.2.2.2.1 (by rw [hU]; exact z)))
  have hl : lv_has ls 7 [(0, .ref (ad 0 0)), (1, .int (nI w)), (2, .int sg), (3, .int ow), (4, .int (nI cl)), (5, .ref out)] := hl
  refine lv_aload hx hb dL_wall_0 (lv_at hl 5 rfl) ?_
  refine lv_iconstN hx hb 0 dL_wall_2 (by decide) ?_
  refine lv_aload_n hx hb dL_wall_3 rfl (lv_at hl 0 rfl) ?_
  refine lv_iload_n hx hb dL_wall_4 rfl (lv_at hl 1 rfl) ?_
  refine lv_iload_n hx hb dL_wall_5 rfl (lv_at hl 2 rfl) ?_
  refine lv_iload_n hx hb dL_wall_6 rfl (lv_at hl 3 rfl) ?_
  refine lv_iload hx hb dL_wall_7 (lv_at hl 4 rfl) ?_
  refine mu_V (As := [.int (nI w), .int sg, .int ow, .int (nI cl)]) (h0 := ad 0 0) (rest := [.int (nI 0), .ref out]) (v := nI (c.R 10 0)) hx hb hml hown hC hS hAb (mX3_wall_g l hX w cl sg ow hw hw2 hg hg2 ho hc hc2 hs heq) (fun q h => h.elim (hA q) (fun z => hN q (by rw [hU]; exact z))) kV_L_7 ⟨rfl, rfl⟩ ⟨Nat.le_of_ble_eq_true rfl, Nat.le_of_ble_eq_true rfl⟩ (hP.recv hC cX_0 rfl) rfl hl (Nat.le_of_ble_eq_true rfl) ⟨Nat.le_of_ble_eq_true rfl, Nat.le_of_ble_eq_true rfl⟩ dL_wall_9 (fun H locs hB hS hz hk => ?_)
  have hO : oO E out w9 H := (hk out hlt (fun h => h.elim hoL (fun h => absurd hlt (Nat.not_lt.mpr h)))).trans hO
  obtain ⟨L2, ly2, ad2, hX, e00, hL2⟩ := hB
  have hoL2 : out ∉ L2 := fun h => (hL2 out h).elim hoL (fun h => absurd hlt (Nat.not_lt.mpr h))
  refine lv_i2l (v := (nI (c.R 10 0)).toInt64) hx hb dL_wall_12 rfl ?_
  refine lw_last hx hb hC hO hS (Or.inr (Or.inl rfl)) dL_wall_13 (fun H locs hO hz1 hk1 hS => ?_)
  have hX := hX.kept (fun q _ h => hk1 q (fun z => hoL2 (by rw [← z]; exact h)))
  refine lv_goto (tgt := 25) hx hb dL_wall_14 (by decide) ?_
  refine lv_iconstN hx hb 0 dL_wall_25 (by decide) ?_
  refine W.widen (k := 3) (n := 226) (by omega) (by omega) ?_
  exact mu_iret (x := nI 0) hx hb hr hlocks hS ⟨hO, ⟨L2, ly2, ad2, hX, e00, hL2⟩⟩ rfl dL_wall_26
set_option maxHeartbeats 4000000 in
set_option maxRecDepth 100000 in
theorem mL_hand_b1 (l : Launch) (hst : l.stackTraces = false) {E : En} {c : Cy} {ly : Ly} {L : List Nat} {ad : Nat → Nat → Nat} {H0 : Heap} (hX : PX E c ly L ad H0) {out : Nat} {w9 : Int64} (hO : oO E out w9 H0) (hoL : out ∉ L) (hob : bA E out) (a b o v : Int32) (ha : hanOK a b o v = false) : LwI l yL_hand cL_hand 7 [(0, 14, 17, 13), (0, 14, 21, 15)] (rmk 7 1 6 115) [.ref (ad 0 0), .int a, .int b, .int o, .int v, .ref out] E H0 (nI 1) (oB H0.size E c L (ad 0 0) out w9) (aO L out H0) 1 6 := by
  obtain ⟨hP, hly, hLb, wf⟩ := id hX
  have hlt : out < H0.size := (Array.getElem?_eq_some_iff.mp hO).1
  refine lw_of (by decide) (Nat.le_of_ble_eq_true rfl) ?_
  intro p e s m below meth co ls hx hb hr hml hown hlocks htab hC hNc hU hl
  have hS : va_S (aO L out H0) s.heap H0 [] := by rw [hU]; exact va_S.rf
  have hA : ∀ q, q ∈ L → aO L out H0 q := fun q h => Or.inl h
  have hN : ∀ q, s.heap.size ≤ q → aO L out H0 q := fun q h => Or.inr (Or.inr (by rw [← hU]; exact h))
  have hAb : ∀ q, aO L out H0 q → bA E q := fun q h => h.elim (hLb q) (fun h => h.elim (fun h => by rw [h]; exact hob) (fun z => Nat.le_trans hC.2.2.2.1 (by rw [hU]; exact z)))
  have hl : lv_has ls 7 [(0, .ref (ad 0 0)), (1, .int a), (2, .int b), (3, .int o), (4, .int v), (5, .ref out)] := hl
  refine lv_aload hx hb dL_hand_0 (lv_at hl 5 rfl) ?_
  refine lv_iconstN hx hb 0 dL_hand_2 (by decide) ?_
  refine lv_aload_n hx hb dL_hand_3 rfl (lv_at hl 0 rfl) ?_
  refine lv_iload_n hx hb dL_hand_4 rfl (lv_at hl 1 rfl) ?_
  refine lv_iload_n hx hb dL_hand_5 rfl (lv_at hl 2 rfl) ?_
  refine lv_iload_n hx hb dL_hand_6 rfl (lv_at hl 3 rfl) ?_
  refine lv_iload hx hb dL_hand_7 (lv_at hl 4 rfl) ?_
  refine lw_throw (As := [.int a, .int b, .int o, .int v]) (h0 := ad 0 0) (rest := [.int (nI 0), .ref out]) hx hb hml hown hC hU (mX3_hand_b1 l hst hX a b o v ha) kV_L_17 ⟨Nat.le_of_ble_eq_true rfl, Nat.le_of_ble_eq_true rfl⟩ ⟨Nat.le_of_ble_eq_true rfl, Nat.le_of_ble_eq_true rfl⟩ (hP.recv hC cX_0 rfl) rfl hl (Nat.le_of_ble_eq_true rfl) dL_hand_9 (fun q9 ce H hS2 hce hcv hcl => ?_)
  have hS : va_S (aO L out H0) s.heap H [] := by rw [hU]; exact ⟨hS2.1, fun q h1 _ => hS2.2.1 q h1 (fun z => z), fun _ h => absurd h List.not_mem_nil⟩
  have hX := hX.kept (fun q h1 _ => hS2.2.1 q h1 (fun z => z))
  have hO : oO E out w9 H := (hS2.2.1 out hlt (fun z => z)).trans hO
  refine vx_catch hown (tableOf []) ⟨0, 14, 17, 13⟩ (tableOf [(0, 14, 21, 15)]) (htab.trans rfl) (fun z hz => absurd hz List.not_mem_nil) rfl (by decide) (hC.2.1.hts _ _ wCl_L_13) (cs_xIA hC) hce hcv hcl ?_
  refine lv_astore (lv' := [(6, .ref q9), (0, .ref (ad 0 0)), (1, .int a), (2, .int b), (3, .int o), (4, .int v), (5, .ref out)]) hx hb dL_hand_17 hl (by decide) rfl (fun ls hl => ?_)
  refine lv_iconstN hx hb 1 dL_hand_19 (by decide) ?_
  refine W.widen (k := 1) (n := 6) (by omega) (by omega) ?_
  exact mu_iret (x := nI 1) hx hb hr hlocks hS ⟨hO, ⟨L, ly, ad, hX, rfl, fun q h => Or.inl h⟩⟩ rfl dL_hand_20
set_option maxHeartbeats 4000000 in
set_option maxRecDepth 100000 in
theorem mL_hand_b2 (l : Launch) (hst : l.stackTraces = false) {E : En} {c : Cy} {ly : Ly} {L : List Nat} {ad : Nat → Nat → Nat} {H0 : Heap} (hX : PX E c ly L ad H0) {out : Nat} {w9 : Int64} (hO : oO E out w9 H0) (hoL : out ∉ L) (hob : bA E out) (a b o v : Int32) (ha : hanOK a b o v = true) (hs : 8 ≤ c.R 10 1) : LwI l yL_hand cL_hand 7 [(0, 14, 17, 13), (0, 14, 21, 15)] (rmk 7 1 6 115) [.ref (ad 0 0), .int a, .int b, .int o, .int v, .ref out] E H0 (nI 2) (oB H0.size E c L (ad 0 0) out w9) (aO L out H0) 1 6 := by
  obtain ⟨hP, hly, hLb, wf⟩ := id hX
  have hlt : out < H0.size := (Array.getElem?_eq_some_iff.mp hO).1
  refine lw_of (by decide) (Nat.le_of_ble_eq_true rfl) ?_
  intro p e s m below meth co ls hx hb hr hml hown hlocks htab hC hNc hU hl
  have hS : va_S (aO L out H0) s.heap H0 [] := by rw [hU]; exact va_S.rf
  have hA : ∀ q, q ∈ L → aO L out H0 q := fun q h => Or.inl h
  have hN : ∀ q, s.heap.size ≤ q → aO L out H0 q := fun q h => Or.inr (Or.inr (by rw [← hU]; exact h))
  have hAb : ∀ q, aO L out H0 q → bA E q := fun q h => h.elim (hLb q) (fun h => h.elim (fun h => by rw [h]; exact hob) (fun z => Nat.le_trans hC.2.2.2.1 (by rw [hU]; exact z)))
  have hl : lv_has ls 7 [(0, .ref (ad 0 0)), (1, .int a), (2, .int b), (3, .int o), (4, .int v), (5, .ref out)] := hl
  refine lv_aload hx hb dL_hand_0 (lv_at hl 5 rfl) ?_
  refine lv_iconstN hx hb 0 dL_hand_2 (by decide) ?_
  refine lv_aload_n hx hb dL_hand_3 rfl (lv_at hl 0 rfl) ?_
  refine lv_iload_n hx hb dL_hand_4 rfl (lv_at hl 1 rfl) ?_
  refine lv_iload_n hx hb dL_hand_5 rfl (lv_at hl 2 rfl) ?_
  refine lv_iload_n hx hb dL_hand_6 rfl (lv_at hl 3 rfl) ?_
  refine lv_iload hx hb dL_hand_7 (lv_at hl 4 rfl) ?_
  refine lw_throw (As := [.int a, .int b, .int o, .int v]) (h0 := ad 0 0) (rest := [.int (nI 0), .ref out]) hx hb hml hown hC hU (mX3_hand_b2 l hst hX a b o v ha hs) kV_L_17 ⟨Nat.le_of_ble_eq_true rfl, Nat.le_of_ble_eq_true rfl⟩ ⟨Nat.le_of_ble_eq_true rfl, Nat.le_of_ble_eq_true rfl⟩ (hP.recv hC cX_0 rfl) rfl hl (Nat.le_of_ble_eq_true rfl) dL_hand_9 (fun q9 ce H hS2 hce hcv hcl => ?_)
  have hS : va_S (aO L out H0) s.heap H [] := by rw [hU]; exact ⟨hS2.1, fun q h1 _ => hS2.2.1 q h1 (fun z => z), fun _ h => absurd h List.not_mem_nil⟩
  have hX := hX.kept (fun q h1 _ => hS2.2.1 q h1 (fun z => z))
  have hO : oO E out w9 H := (hS2.2.1 out hlt (fun z => z)).trans hO
  refine vx_catch hown (tableOf [(0, 14, 17, 13)]) ⟨0, 14, 21, 15⟩ (tableOf []) (htab.trans rfl) (fun z hz => by rw [List.mem_singleton.mp hz]; exact Or.inr ⟨by decide, xIA, hC.2.1.hts _ _ wCl_L_13, hNc.2.1⟩) rfl (by decide) (hC.2.1.hts _ _ wCl_L_15) (cs_xIS hC) hce hcv hcl ?_
  refine lv_astore (lv' := [(6, .ref q9), (0, .ref (ad 0 0)), (1, .int a), (2, .int b), (3, .int o), (4, .int v), (5, .ref out)]) hx hb dL_hand_21 hl (by decide) rfl (fun ls hl => ?_)
  refine lv_iconstN hx hb 2 dL_hand_23 (by decide) ?_
  refine W.widen (k := 1) (n := 6) (by omega) (by omega) ?_
  exact mu_iret (x := nI 2) hx hb hr hlocks hS ⟨hO, ⟨L, ly, ad, hX, rfl, fun q h => Or.inl h⟩⟩ rfl dL_hand_24
set_option maxHeartbeats 4000000 in
set_option maxRecDepth 100000 in
theorem mL_hand_g (l : Launch) {E : En} {c : Cy} {ly : Ly} {L : List Nat} {ad : Nat → Nat → Nat} {H0 : Heap} (hX : PX E c ly L ad H0) {out : Nat} {w9 : Int64} (hO : oO E out w9 H0) (hoL : out ∉ L) (hob : bA E out) (sp : Nat) (cr sl rd : Int32) (hcr : isInS cr (nI 0) (nI 3) = true) (hp : 1 ≤ sp) (hp2 : sp ≤ 9) (hl2 : isInS sl (nI 0) (nI 9) = true) (hd : isInS rd (nI 0) (nI 9) = true) (hs : c.R 10 1 < 8) (heq : c.R 10 1 = c.R 11 1) : LwI l yL_hand cL_hand 7 [(0, 14, 17, 13), (0, 14, 21, 15)] (rmk 8 3 226 226) [.ref (ad 0 0), .int cr, .int (nI sp), .int sl, .int rd, .ref out] E H0 (nI 0) (oB H0.size E (lsC (mkH c sp cr sl rd) 1) L (ad 0 0) out ((nI (c.R 10 1)).toInt64)) (aO L out H0) 3 226 := by
  obtain ⟨hP, hly, hLb, wf⟩ := id hX
  have hlt : out < H0.size := (Array.getElem?_eq_some_iff.mp hO).1
  refine lw_of (by decide) (Nat.le_of_ble_eq_true rfl) ?_
  intro p e s m below meth co ls hx hb hr hml hown hlocks htab hC hNc hU hl
  have hS : va_S (aO L out H0) s.heap H0 [] := by rw [hU]; exact va_S.rf
  have hA : ∀ q, q ∈ L → aO L out H0 q := fun q h => Or.inl h
  have hN : ∀ q, s.heap.size ≤ q → aO L out H0 q := fun q h => Or.inr (Or.inr (by rw [← hU]; exact h))
  have hAb : ∀ q, aO L out H0 q → bA E q := fun q h => h.elim (hLb q) (fun h => h.elim (fun h => by rw [h]; exact hob) (fun z => Nat.le_trans hC.2.2.2.1 (by rw [hU]; exact z)))
  have hl : lv_has ls 7 [(0, .ref (ad 0 0)), (1, .int cr), (2, .int (nI sp)), (3, .int sl), (4, .int rd), (5, .ref out)] := hl
  refine lv_aload hx hb dL_hand_0 (lv_at hl 5 rfl) ?_
  refine lv_iconstN hx hb 0 dL_hand_2 (by decide) ?_
  refine lv_aload_n hx hb dL_hand_3 rfl (lv_at hl 0 rfl) ?_
  refine lv_iload_n hx hb dL_hand_4 rfl (lv_at hl 1 rfl) ?_
  refine lv_iload_n hx hb dL_hand_5 rfl (lv_at hl 2 rfl) ?_
  refine lv_iload_n hx hb dL_hand_6 rfl (lv_at hl 3 rfl) ?_
  refine lv_iload hx hb dL_hand_7 (lv_at hl 4 rfl) ?_
  refine mu_V (As := [.int cr, .int (nI sp), .int sl, .int rd]) (h0 := ad 0 0) (rest := [.int (nI 0), .ref out]) (v := nI (c.R 10 1)) hx hb hml hown hC hS hAb (mX3_hand_g l hX sp cr sl rd hcr hp hp2 hl2 hd hs heq) (fun q h => h.elim (hA q) (fun z => hN q (by rw [hU]; exact z))) kV_L_17 ⟨rfl, rfl⟩ ⟨Nat.le_of_ble_eq_true rfl, Nat.le_of_ble_eq_true rfl⟩ (hP.recv hC cX_0 rfl) rfl hl (Nat.le_of_ble_eq_true rfl) ⟨Nat.le_of_ble_eq_true rfl, Nat.le_of_ble_eq_true rfl⟩ dL_hand_9 (fun H locs hB hS hz hk => ?_)
  have hO : oO E out w9 H := (hk out hlt (fun h => h.elim hoL (fun h => absurd hlt (Nat.not_lt.mpr h)))).trans hO
  obtain ⟨L2, ly2, ad2, hX, e00, hL2⟩ := hB
  have hoL2 : out ∉ L2 := fun h => (hL2 out h).elim hoL (fun h => absurd hlt (Nat.not_lt.mpr h))
  refine lv_i2l (v := (nI (c.R 10 1)).toInt64) hx hb dL_hand_12 rfl ?_
  refine lw_last hx hb hC hO hS (Or.inr (Or.inl rfl)) dL_hand_13 (fun H locs hO hz1 hk1 hS => ?_)
  have hX := hX.kept (fun q _ h => hk1 q (fun z => hoL2 (by rw [← z]; exact h)))
  refine lv_goto (tgt := 25) hx hb dL_hand_14 (by decide) ?_
  refine lv_iconstN hx hb 0 dL_hand_25 (by decide) ?_
  refine W.widen (k := 3) (n := 226) (by omega) (by omega) ?_
  exact mu_iret (x := nI 0) hx hb hr hlocks hS ⟨hO, ⟨L2, ly2, ad2, hX, e00, hL2⟩⟩ rfl dL_hand_26
set_option maxHeartbeats 4000000 in
set_option maxRecDepth 100000 in
theorem mL_permit_g (l : Launch) {E : En} {c : Cy} {ly : Ly} {L : List Nat} {ad : Nat → Nat → Nat} {H0 : Heap} (hX : PX E c ly L ad H0) {out : Nat} {w9 : Int64} (hO : oO E out w9 H0) (hoL : out ∉ L) (hob : bA E out) (i : Nat) (a b : Int32) (hi : i < c.R 10 0) (ha : isInS a (nI 0) (nI 3) = true) (hb2 : isInS b (nI (c.R 0 0)) (nI 400) = true) : LwI l yL_permit cL_permit 6 [(0, 12, 15, 24), (0, 12, 19, 13)] (rmk 5 0 0 110) [.ref (ad 0 0), .int (nI i), .int a, .int b, .ref out] E H0 (nI 0) (oB H0.size E (c.R, pmI c i a b, c.B, c.Wr, c.sh) L (ad 0 0) out ((pcS c i (nI (c.R 0 0))).toInt64)) (aO L out H0) 0 0 := by
  obtain ⟨hP, hly, hLb, wf⟩ := id hX
  have hlt : out < H0.size := (Array.getElem?_eq_some_iff.mp hO).1
  refine lw_of (by decide) (Nat.le_of_ble_eq_true rfl) ?_
  intro p e s m below meth co ls hx hb hr hml hown hlocks htab hC hNc hU hl
  have hS : va_S (aO L out H0) s.heap H0 [] := by rw [hU]; exact va_S.rf
  have hA : ∀ q, q ∈ L → aO L out H0 q := fun q h => Or.inl h
  have hN : ∀ q, s.heap.size ≤ q → aO L out H0 q := fun q h => Or.inr (Or.inr (by rw [← hU]; exact h))
  have hAb : ∀ q, aO L out H0 q → bA E q := fun q h => h.elim (hLb q) (fun h => h.elim (fun h => by rw [h]; exact hob) (fun z => Nat.le_trans hC.2.2.2.1 (by rw [hU]; exact z)))
  have hl : lv_has ls 6 [(0, .ref (ad 0 0)), (1, .int (nI i)), (2, .int a), (3, .int b), (4, .ref out)] := hl
  refine lv_aload hx hb dL_permit_0 (lv_at hl 4 rfl) ?_
  refine lv_iconstN hx hb 0 dL_permit_2 (by decide) ?_
  refine lv_aload_n hx hb dL_permit_3 rfl (lv_at hl 0 rfl) ?_
  refine lv_iload_n hx hb dL_permit_4 rfl (lv_at hl 1 rfl) ?_
  refine lv_iload_n hx hb dL_permit_5 rfl (lv_at hl 2 rfl) ?_
  refine lv_iload_n hx hb dL_permit_6 rfl (lv_at hl 3 rfl) ?_
  refine mu_V (As := [.int (nI i), .int a, .int b]) (h0 := ad 0 0) (rest := [.int (nI 0), .ref out]) (v := pcS c i (nI (c.R 0 0))) hx hb hml hown hC hS hAb (mX3_permit_g l hX i a b hi ha hb2) (fun q h => h.elim (hA q) (fun z => hN q (by rw [hU]; exact z))) kV_L_20 ⟨rfl, rfl⟩ ⟨Nat.le_of_ble_eq_true rfl, Nat.le_of_ble_eq_true rfl⟩ (hP.recv hC cX_0 rfl) rfl hl (Nat.le_of_ble_eq_true rfl) ⟨Nat.le_of_ble_eq_true rfl, Nat.le_of_ble_eq_true rfl⟩ dL_permit_7 (fun H locs hB hS hz hk => ?_)
  have hO : oO E out w9 H := (hk out hlt (fun h => h.elim hoL (fun h => absurd hlt (Nat.not_lt.mpr h)))).trans hO
  have hX : PX E (c.R, pmI c i a b, c.B, c.Wr, c.sh) ly L ad H := hB
  have hoL2 := hoL
  refine lv_i2l (v := (pcS c i (nI (c.R 0 0))).toInt64) hx hb dL_permit_10 rfl ?_
  refine lw_last hx hb hC hO hS (Or.inr (Or.inl rfl)) dL_permit_11 (fun H locs hO hz1 hk1 hS => ?_)
  have hX := hX.kept (fun q _ h => hk1 q (fun z => hoL2 (by rw [← z]; exact h)))
  refine lv_goto (tgt := 23) hx hb dL_permit_12 (by decide) ?_
  refine lv_iconstN hx hb 0 dL_permit_23 (by decide) ?_
  refine W.widen (k := 0) (n := 0) (by omega) (by omega) ?_
  exact mu_iret (x := nI 0) hx hb hr hlocks hS ⟨hO, ⟨L, ly, ad, hX, rfl, fun q h => Or.inl h⟩⟩ rfl dL_permit_24
set_option maxHeartbeats 4000000 in
set_option maxRecDepth 100000 in
theorem mL_permit_b1 (l : Launch) (hst : l.stackTraces = false) {E : En} {c : Cy} {ly : Ly} {L : List Nat} {ad : Nat → Nat → Nat} {H0 : Heap} (hX : PX E c ly L ad H0) {out : Nat} {w9 : Int64} (hO : oO E out w9 H0) (hoL : out ∉ L) (hob : bA E out) (v a b : Int32) (hv : isInS v (nI 0) (nI (c.R 10 0) - nI 1) = false) : LwI l yL_permit cL_permit 6 [(0, 12, 15, 24), (0, 12, 19, 13)] (rmk 8 1 6 136) [.ref (ad 0 0), .int v, .int a, .int b, .ref out] E H0 (nI 1) (oB H0.size E c L (ad 0 0) out w9) (aO L out H0) 1 6 := by
  obtain ⟨hP, hly, hLb, wf⟩ := id hX
  have hlt : out < H0.size := (Array.getElem?_eq_some_iff.mp hO).1
  refine lw_of (by decide) (Nat.le_of_ble_eq_true rfl) ?_
  intro p e s m below meth co ls hx hb hr hml hown hlocks htab hC hNc hU hl
  have hS : va_S (aO L out H0) s.heap H0 [] := by rw [hU]; exact va_S.rf
  have hA : ∀ q, q ∈ L → aO L out H0 q := fun q h => Or.inl h
  have hN : ∀ q, s.heap.size ≤ q → aO L out H0 q := fun q h => Or.inr (Or.inr (by rw [← hU]; exact h))
  have hAb : ∀ q, aO L out H0 q → bA E q := fun q h => h.elim (hLb q) (fun h => h.elim (fun h => by rw [h]; exact hob) (fun z => Nat.le_trans hC.2.2.2.1 (by rw [hU]; exact z)))
  have hl : lv_has ls 6 [(0, .ref (ad 0 0)), (1, .int v), (2, .int a), (3, .int b), (4, .ref out)] := hl
  refine lv_aload hx hb dL_permit_0 (lv_at hl 4 rfl) ?_
  refine lv_iconstN hx hb 0 dL_permit_2 (by decide) ?_
  refine lv_aload_n hx hb dL_permit_3 rfl (lv_at hl 0 rfl) ?_
  refine lv_iload_n hx hb dL_permit_4 rfl (lv_at hl 1 rfl) ?_
  refine lv_iload_n hx hb dL_permit_5 rfl (lv_at hl 2 rfl) ?_
  refine lv_iload_n hx hb dL_permit_6 rfl (lv_at hl 3 rfl) ?_
  refine lw_throw (As := [.int v, .int a, .int b]) (h0 := ad 0 0) (rest := [.int (nI 0), .ref out]) hx hb hml hown hC hU (mX3_permit_b1 l hst hX v a b hv) kV_L_20 ⟨Nat.le_of_ble_eq_true rfl, Nat.le_of_ble_eq_true rfl⟩ ⟨Nat.le_of_ble_eq_true rfl, Nat.le_of_ble_eq_true rfl⟩ (hP.recv hC cX_0 rfl) rfl hl (Nat.le_of_ble_eq_true rfl) dL_permit_7 (fun q9 ce H hS2 hce hcv hcl => ?_)
  have hS : va_S (aO L out H0) s.heap H [] := by rw [hU]; exact ⟨hS2.1, fun q h1 _ => hS2.2.1 q h1 (fun z => z), fun _ h => absurd h List.not_mem_nil⟩
  have hX := hX.kept (fun q h1 _ => hS2.2.1 q h1 (fun z => z))
  have hO : oO E out w9 H := (hS2.2.1 out hlt (fun z => z)).trans hO
  refine vx_catch hown (tableOf []) ⟨0, 12, 15, 24⟩ (tableOf [(0, 12, 19, 13)]) (htab.trans rfl) (fun z hz => absurd hz List.not_mem_nil) rfl (by decide) (hC.2.1.hts _ _ wCl_L_24) (cs_xIO hC) hce hcv hcl ?_
  refine lv_astore (lv' := [(5, .ref q9), (0, .ref (ad 0 0)), (1, .int v), (2, .int a), (3, .int b), (4, .ref out)]) hx hb dL_permit_15 hl (by decide) rfl (fun ls hl => ?_)
  refine lv_iconstN hx hb 1 dL_permit_17 (by decide) ?_
  refine W.widen (k := 1) (n := 6) (by omega) (by omega) ?_
  exact mu_iret (x := nI 1) hx hb hr hlocks hS ⟨hO, ⟨L, ly, ad, hX, rfl, fun q h => Or.inl h⟩⟩ rfl dL_permit_18
set_option maxHeartbeats 4000000 in
set_option maxRecDepth 100000 in
theorem mL_permit_b2 (l : Launch) (hst : l.stackTraces = false) {E : En} {c : Cy} {ly : Ly} {L : List Nat} {ad : Nat → Nat → Nat} {H0 : Heap} (hX : PX E c ly L ad H0) {out : Nat} {w9 : Int64} (hO : oO E out w9 H0) (hoL : out ∉ L) (hob : bA E out) (i : Nat) (a b : Int32) (hi : i < c.R 10 0) (ha : (isInS a (nI 0) (nI 3) && isInS b (nI (c.R 0 0)) (nI 400)) = false) : LwI l yL_permit cL_permit 6 [(0, 12, 15, 24), (0, 12, 19, 13)] (rmk 7 1 6 115) [.ref (ad 0 0), .int (nI i), .int a, .int b, .ref out] E H0 (nI 2) (oB H0.size E c L (ad 0 0) out w9) (aO L out H0) 1 6 := by
  obtain ⟨hP, hly, hLb, wf⟩ := id hX
  have hlt : out < H0.size := (Array.getElem?_eq_some_iff.mp hO).1
  refine lw_of (by decide) (Nat.le_of_ble_eq_true rfl) ?_
  intro p e s m below meth co ls hx hb hr hml hown hlocks htab hC hNc hU hl
  have hS : va_S (aO L out H0) s.heap H0 [] := by rw [hU]; exact va_S.rf
  have hA : ∀ q, q ∈ L → aO L out H0 q := fun q h => Or.inl h
  have hN : ∀ q, s.heap.size ≤ q → aO L out H0 q := fun q h => Or.inr (Or.inr (by rw [← hU]; exact h))
  have hAb : ∀ q, aO L out H0 q → bA E q := fun q h => h.elim (hLb q) (fun h => h.elim (fun h => by rw [h]; exact hob) (fun z => Nat.le_trans hC.2.2.2.1 (by rw [hU]; exact z)))
  have hl : lv_has ls 6 [(0, .ref (ad 0 0)), (1, .int (nI i)), (2, .int a), (3, .int b), (4, .ref out)] := hl
  refine lv_aload hx hb dL_permit_0 (lv_at hl 4 rfl) ?_
  refine lv_iconstN hx hb 0 dL_permit_2 (by decide) ?_
  refine lv_aload_n hx hb dL_permit_3 rfl (lv_at hl 0 rfl) ?_
  refine lv_iload_n hx hb dL_permit_4 rfl (lv_at hl 1 rfl) ?_
  refine lv_iload_n hx hb dL_permit_5 rfl (lv_at hl 2 rfl) ?_
  refine lv_iload_n hx hb dL_permit_6 rfl (lv_at hl 3 rfl) ?_
  refine lw_throw (As := [.int (nI i), .int a, .int b]) (h0 := ad 0 0) (rest := [.int (nI 0), .ref out]) hx hb hml hown hC hU (mX3_permit_b2 l hst hX i a b hi ha) kV_L_20 ⟨Nat.le_of_ble_eq_true rfl, Nat.le_of_ble_eq_true rfl⟩ ⟨Nat.le_of_ble_eq_true rfl, Nat.le_of_ble_eq_true rfl⟩ (hP.recv hC cX_0 rfl) rfl hl (Nat.le_of_ble_eq_true rfl) dL_permit_7 (fun q9 ce H hS2 hce hcv hcl => ?_)
  have hS : va_S (aO L out H0) s.heap H [] := by rw [hU]; exact ⟨hS2.1, fun q h1 _ => hS2.2.1 q h1 (fun z => z), fun _ h => absurd h List.not_mem_nil⟩
  have hX := hX.kept (fun q h1 _ => hS2.2.1 q h1 (fun z => z))
  have hO : oO E out w9 H := (hS2.2.1 out hlt (fun z => z)).trans hO
  refine vx_catch hown (tableOf [(0, 12, 15, 24)]) ⟨0, 12, 19, 13⟩ (tableOf []) (htab.trans rfl) (fun z hz => by rw [List.mem_singleton.mp hz]; exact Or.inr ⟨by decide, xIO, hC.2.1.hts _ _ wCl_L_24, hNc.1⟩) rfl (by decide) (hC.2.1.hts _ _ wCl_L_13) (cs_xIA hC) hce hcv hcl ?_
  refine lv_astore (lv' := [(5, .ref q9), (0, .ref (ad 0 0)), (1, .int (nI i)), (2, .int a), (3, .int b), (4, .ref out)]) hx hb dL_permit_19 hl (by decide) rfl (fun ls hl => ?_)
  refine lv_iconstN hx hb 2 dL_permit_21 (by decide) ?_
  refine W.widen (k := 1) (n := 6) (by omega) (by omega) ?_
  exact mu_iret (x := nI 2) hx hb hr hlocks hS ⟨hO, ⟨L, ly, ad, hX, rfl, fun q h => Or.inl h⟩⟩ rfl dL_permit_22
set_option maxHeartbeats 4000000 in
set_option maxRecDepth 100000 in
theorem mL_watch_g (l : Launch) {E : En} {c : Cy} {ly : Ly} {L : List Nat} {ad : Nat → Nat → Nat} {H0 : Heap} (hX : PX E c ly L ad H0) {out : Nat} {w9 : Int64} (hO : oO E out w9 H0) (hoL : out ∉ L) (hob : bA E out) (i a b : Nat) (hi : i < c.R 10 0) (ha : isInS (nI a) (nI 0) (nI 359) = true) (hb2 : isInS (nI b) (nI a) (nI 359) = true) (ha3 : a < 360) : LwI l yL_watch cL_watch 6 [(0, 12, 15, 24), (0, 12, 19, 13)] (rmk 5 0 0 109) [.ref (ad 0 0), .int (nI i), .int (nI a), .int (nI b), .ref out] E H0 (nI 0) (oB H0.size E (c.R, waI c i a b, c.B, c.Wr, c.sh) L (ad 0 0) out ((nI b - nI a + nI 1).toInt64)) (aO L out H0) 0 0 := by
  obtain ⟨hP, hly, hLb, wf⟩ := id hX
  have hlt : out < H0.size := (Array.getElem?_eq_some_iff.mp hO).1
  refine lw_of (by decide) (Nat.le_of_ble_eq_true rfl) ?_
  intro p e s m below meth co ls hx hb hr hml hown hlocks htab hC hNc hU hl
  have hS : va_S (aO L out H0) s.heap H0 [] := by rw [hU]; exact va_S.rf
  have hA : ∀ q, q ∈ L → aO L out H0 q := fun q h => Or.inl h
  have hN : ∀ q, s.heap.size ≤ q → aO L out H0 q := fun q h => Or.inr (Or.inr (by rw [← hU]; exact h))
  have hAb : ∀ q, aO L out H0 q → bA E q := fun q h => h.elim (hLb q) (fun h => h.elim (fun h => by rw [h]; exact hob) (fun z => Nat.le_trans hC.2.2.2.1 (by rw [hU]; exact z)))
  have hl : lv_has ls 6 [(0, .ref (ad 0 0)), (1, .int (nI i)), (2, .int (nI a)), (3, .int (nI b)), (4, .ref out)] := hl
  refine lv_aload hx hb dL_watch_0 (lv_at hl 4 rfl) ?_
  refine lv_iconstN hx hb 0 dL_watch_2 (by decide) ?_
  refine lv_aload_n hx hb dL_watch_3 rfl (lv_at hl 0 rfl) ?_
  refine lv_iload_n hx hb dL_watch_4 rfl (lv_at hl 1 rfl) ?_
  refine lv_iload_n hx hb dL_watch_5 rfl (lv_at hl 2 rfl) ?_
  refine lv_iload_n hx hb dL_watch_6 rfl (lv_at hl 3 rfl) ?_
  refine mu_V (As := [.int (nI i), .int (nI a), .int (nI b)]) (h0 := ad 0 0) (rest := [.int (nI 0), .ref out]) (v := nI b - nI a + nI 1) hx hb hml hown hC hS hAb (mX3_watch_g l hX i a b hi ha hb2 ha3) (fun q h => h.elim (hA q) (fun z => hN q (by rw [hU]; exact z))) kV_L_26 ⟨rfl, rfl⟩ ⟨Nat.le_of_ble_eq_true rfl, Nat.le_of_ble_eq_true rfl⟩ (hP.recv hC cX_0 rfl) rfl hl (Nat.le_of_ble_eq_true rfl) ⟨Nat.le_of_ble_eq_true rfl, Nat.le_of_ble_eq_true rfl⟩ dL_watch_7 (fun H locs hB hS hz hk => ?_)
  have hO : oO E out w9 H := (hk out hlt (fun h => h.elim hoL (fun h => absurd hlt (Nat.not_lt.mpr h)))).trans hO
  have hX : PX E (c.R, waI c i a b, c.B, c.Wr, c.sh) ly L ad H := hB
  have hoL2 := hoL
  refine lv_i2l (v := (nI b - nI a + nI 1).toInt64) hx hb dL_watch_10 rfl ?_
  refine lw_last hx hb hC hO hS (Or.inr (Or.inl rfl)) dL_watch_11 (fun H locs hO hz1 hk1 hS => ?_)
  have hX := hX.kept (fun q _ h => hk1 q (fun z => hoL2 (by rw [← z]; exact h)))
  refine lv_goto (tgt := 23) hx hb dL_watch_12 (by decide) ?_
  refine lv_iconstN hx hb 0 dL_watch_23 (by decide) ?_
  refine W.widen (k := 0) (n := 0) (by omega) (by omega) ?_
  exact mu_iret (x := nI 0) hx hb hr hlocks hS ⟨hO, ⟨L, ly, ad, hX, rfl, fun q h => Or.inl h⟩⟩ rfl dL_watch_24
set_option maxHeartbeats 4000000 in
set_option maxRecDepth 100000 in
theorem mL_watch_b1 (l : Launch) (hst : l.stackTraces = false) {E : En} {c : Cy} {ly : Ly} {L : List Nat} {ad : Nat → Nat → Nat} {H0 : Heap} (hX : PX E c ly L ad H0) {out : Nat} {w9 : Int64} (hO : oO E out w9 H0) (hoL : out ∉ L) (hob : bA E out) (v a b : Int32) (hv : isInS v (nI 0) (nI (c.R 10 0) - nI 1) = false) : LwI l yL_watch cL_watch 6 [(0, 12, 15, 24), (0, 12, 19, 13)] (rmk 8 1 6 135) [.ref (ad 0 0), .int v, .int a, .int b, .ref out] E H0 (nI 1) (oB H0.size E c L (ad 0 0) out w9) (aO L out H0) 1 6 := by
  obtain ⟨hP, hly, hLb, wf⟩ := id hX
  have hlt : out < H0.size := (Array.getElem?_eq_some_iff.mp hO).1
  refine lw_of (by decide) (Nat.le_of_ble_eq_true rfl) ?_
  intro p e s m below meth co ls hx hb hr hml hown hlocks htab hC hNc hU hl
  have hS : va_S (aO L out H0) s.heap H0 [] := by rw [hU]; exact va_S.rf
  have hA : ∀ q, q ∈ L → aO L out H0 q := fun q h => Or.inl h
  have hN : ∀ q, s.heap.size ≤ q → aO L out H0 q := fun q h => Or.inr (Or.inr (by rw [← hU]; exact h))
  have hAb : ∀ q, aO L out H0 q → bA E q := fun q h => h.elim (hLb q) (fun h => h.elim (fun h => by rw [h]; exact hob) (fun z => Nat.le_trans hC.2.2.2.1 (by rw [hU]; exact z)))
  have hl : lv_has ls 6 [(0, .ref (ad 0 0)), (1, .int v), (2, .int a), (3, .int b), (4, .ref out)] := hl
  refine lv_aload hx hb dL_watch_0 (lv_at hl 4 rfl) ?_
  refine lv_iconstN hx hb 0 dL_watch_2 (by decide) ?_
  refine lv_aload_n hx hb dL_watch_3 rfl (lv_at hl 0 rfl) ?_
  refine lv_iload_n hx hb dL_watch_4 rfl (lv_at hl 1 rfl) ?_
  refine lv_iload_n hx hb dL_watch_5 rfl (lv_at hl 2 rfl) ?_
  refine lv_iload_n hx hb dL_watch_6 rfl (lv_at hl 3 rfl) ?_
  refine lw_throw (As := [.int v, .int a, .int b]) (h0 := ad 0 0) (rest := [.int (nI 0), .ref out]) hx hb hml hown hC hU (mX3_watch_b1 l hst hX v a b hv) kV_L_26 ⟨Nat.le_of_ble_eq_true rfl, Nat.le_of_ble_eq_true rfl⟩ ⟨Nat.le_of_ble_eq_true rfl, Nat.le_of_ble_eq_true rfl⟩ (hP.recv hC cX_0 rfl) rfl hl (Nat.le_of_ble_eq_true rfl) dL_watch_7 (fun q9 ce H hS2 hce hcv hcl => ?_)
  have hS : va_S (aO L out H0) s.heap H [] := by rw [hU]; exact ⟨hS2.1, fun q h1 _ => hS2.2.1 q h1 (fun z => z), fun _ h => absurd h List.not_mem_nil⟩
  have hX := hX.kept (fun q h1 _ => hS2.2.1 q h1 (fun z => z))
  have hO : oO E out w9 H := (hS2.2.1 out hlt (fun z => z)).trans hO
  refine vx_catch hown (tableOf []) ⟨0, 12, 15, 24⟩ (tableOf [(0, 12, 19, 13)]) (htab.trans rfl) (fun z hz => absurd hz List.not_mem_nil) rfl (by decide) (hC.2.1.hts _ _ wCl_L_24) (cs_xIO hC) hce hcv hcl ?_
  refine lv_astore (lv' := [(5, .ref q9), (0, .ref (ad 0 0)), (1, .int v), (2, .int a), (3, .int b), (4, .ref out)]) hx hb dL_watch_15 hl (by decide) rfl (fun ls hl => ?_)
  refine lv_iconstN hx hb 1 dL_watch_17 (by decide) ?_
  refine W.widen (k := 1) (n := 6) (by omega) (by omega) ?_
  exact mu_iret (x := nI 1) hx hb hr hlocks hS ⟨hO, ⟨L, ly, ad, hX, rfl, fun q h => Or.inl h⟩⟩ rfl dL_watch_18
set_option maxHeartbeats 4000000 in
set_option maxRecDepth 100000 in
theorem mL_watch_b2 (l : Launch) (hst : l.stackTraces = false) {E : En} {c : Cy} {ly : Ly} {L : List Nat} {ad : Nat → Nat → Nat} {H0 : Heap} (hX : PX E c ly L ad H0) {out : Nat} {w9 : Int64} (hO : oO E out w9 H0) (hoL : out ∉ L) (hob : bA E out) (i : Nat) (a b : Int32) (hi : i < c.R 10 0) (ha : (isInS a (nI 0) (nI 359) && isInS b a (nI 359)) = false) : LwI l yL_watch cL_watch 6 [(0, 12, 15, 24), (0, 12, 19, 13)] (rmk 7 1 6 114) [.ref (ad 0 0), .int (nI i), .int a, .int b, .ref out] E H0 (nI 2) (oB H0.size E c L (ad 0 0) out w9) (aO L out H0) 1 6 := by
  obtain ⟨hP, hly, hLb, wf⟩ := id hX
  have hlt : out < H0.size := (Array.getElem?_eq_some_iff.mp hO).1
  refine lw_of (by decide) (Nat.le_of_ble_eq_true rfl) ?_
  intro p e s m below meth co ls hx hb hr hml hown hlocks htab hC hNc hU hl
  have hS : va_S (aO L out H0) s.heap H0 [] := by rw [hU]; exact va_S.rf
  have hA : ∀ q, q ∈ L → aO L out H0 q := fun q h => Or.inl h
  have hN : ∀ q, s.heap.size ≤ q → aO L out H0 q := fun q h => Or.inr (Or.inr (by rw [← hU]; exact h))
  have hAb : ∀ q, aO L out H0 q → bA E q := fun q h => h.elim (hLb q) (fun h => h.elim (fun h => by rw [h]; exact hob) (fun z => Nat.le_trans hC.2.2.2.1 (by rw [hU]; exact z)))
  have hl : lv_has ls 6 [(0, .ref (ad 0 0)), (1, .int (nI i)), (2, .int a), (3, .int b), (4, .ref out)] := hl
  refine lv_aload hx hb dL_watch_0 (lv_at hl 4 rfl) ?_
  refine lv_iconstN hx hb 0 dL_watch_2 (by decide) ?_
  refine lv_aload_n hx hb dL_watch_3 rfl (lv_at hl 0 rfl) ?_
  refine lv_iload_n hx hb dL_watch_4 rfl (lv_at hl 1 rfl) ?_
  refine lv_iload_n hx hb dL_watch_5 rfl (lv_at hl 2 rfl) ?_
  refine lv_iload_n hx hb dL_watch_6 rfl (lv_at hl 3 rfl) ?_
  refine lw_throw (As := [.int (nI i), .int a, .int b]) (h0 := ad 0 0) (rest := [.int (nI 0), .ref out]) hx hb hml hown hC hU (mX3_watch_b2 l hst hX i a b hi ha) kV_L_26 ⟨Nat.le_of_ble_eq_true rfl, Nat.le_of_ble_eq_true rfl⟩ ⟨Nat.le_of_ble_eq_true rfl, Nat.le_of_ble_eq_true rfl⟩ (hP.recv hC cX_0 rfl) rfl hl (Nat.le_of_ble_eq_true rfl) dL_watch_7 (fun q9 ce H hS2 hce hcv hcl => ?_)
  have hS : va_S (aO L out H0) s.heap H [] := by rw [hU]; exact ⟨hS2.1, fun q h1 _ => hS2.2.1 q h1 (fun z => z), fun _ h => absurd h List.not_mem_nil⟩
  have hX := hX.kept (fun q h1 _ => hS2.2.1 q h1 (fun z => z))
  have hO : oO E out w9 H := (hS2.2.1 out hlt (fun z => z)).trans hO
  refine vx_catch hown (tableOf [(0, 12, 15, 24)]) ⟨0, 12, 19, 13⟩ (tableOf []) (htab.trans rfl) (fun z hz => by rw [List.mem_singleton.mp hz]; exact Or.inr ⟨by decide, xIO, hC.2.1.hts _ _ wCl_L_24, hNc.1⟩) rfl (by decide) (hC.2.1.hts _ _ wCl_L_13) (cs_xIA hC) hce hcv hcl ?_
  refine lv_astore (lv' := [(5, .ref q9), (0, .ref (ad 0 0)), (1, .int (nI i)), (2, .int a), (3, .int b), (4, .ref out)]) hx hb dL_watch_19 hl (by decide) rfl (fun ls hl => ?_)
  refine lv_iconstN hx hb 2 dL_watch_21 (by decide) ?_
  refine W.widen (k := 1) (n := 6) (by omega) (by omega) ?_
  exact mu_iret (x := nI 2) hx hb hr hlocks hS ⟨hO, ⟨L, ly, ad, hX, rfl, fun q h => Or.inl h⟩⟩ rfl dL_watch_22
set_option maxHeartbeats 4000000 in
set_option maxRecDepth 100000 in
theorem mL_paint_b1 (l : Launch) (hst : l.stackTraces = false) {E : En} {c : Cy} {ly : Ly} {L : List Nat} {ad : Nat → Nat → Nat} {H0 : Heap} (hX : PX E c ly L ad H0) {out : Nat} {w9 : Int64} (hO : oO E out w9 H0) (hoL : out ∉ L) (hob : bA E out) (v w f u kd wb : Int32) (hv : isInS v (nI 0) (nI (c.R 10 1) - nI 1) = false) : LwI l yL_paint cL_paint 9 [(0, 18, 21, 24), (0, 18, 25, 13), (0, 18, 29, 15)] (rmk 8 1 6 142) [.ref (ad 0 0), .int v, .int w, .int f, .int u, .int kd, .int wb, .ref out] E H0 (nI 1) (oB H0.size E c L (ad 0 0) out w9) (aO L out H0) 1 6 := by
  obtain ⟨hP, hly, hLb, wf⟩ := id hX
  have hlt : out < H0.size := (Array.getElem?_eq_some_iff.mp hO).1
  refine lw_of (by decide) (Nat.le_of_ble_eq_true rfl) ?_
  intro p e s m below meth co ls hx hb hr hml hown hlocks htab hC hNc hU hl
  have hS : va_S (aO L out H0) s.heap H0 [] := by rw [hU]; exact va_S.rf
  have hA : ∀ q, q ∈ L → aO L out H0 q := fun q h => Or.inl h
  have hN : ∀ q, s.heap.size ≤ q → aO L out H0 q := fun q h => Or.inr (Or.inr (by rw [← hU]; exact h))
  have hAb : ∀ q, aO L out H0 q → bA E q := fun q h => h.elim (hLb q) (fun h => h.elim (fun h => by rw [h]; exact hob) (fun z => Nat.le_trans hC.2.2.2.1 (by rw [hU]; exact z)))
  have hl : lv_has ls 9 [(0, .ref (ad 0 0)), (1, .int v), (2, .int w), (3, .int f), (4, .int u), (5, .int kd), (6, .int wb), (7, .ref out)] := hl
  refine lv_aload hx hb dL_paint_0 (lv_at hl 7 rfl) ?_
  refine lv_iconstN hx hb 0 dL_paint_2 (by decide) ?_
  refine lv_aload_n hx hb dL_paint_3 rfl (lv_at hl 0 rfl) ?_
  refine lv_iload_n hx hb dL_paint_4 rfl (lv_at hl 1 rfl) ?_
  refine lv_iload_n hx hb dL_paint_5 rfl (lv_at hl 2 rfl) ?_
  refine lv_iload_n hx hb dL_paint_6 rfl (lv_at hl 3 rfl) ?_
  refine lv_iload hx hb dL_paint_7 (lv_at hl 4 rfl) ?_
  refine lv_iload hx hb dL_paint_9 (lv_at hl 5 rfl) ?_
  refine lv_iload hx hb dL_paint_11 (lv_at hl 6 rfl) ?_
  refine lw_throw (As := [.int v, .int w, .int f, .int u, .int kd, .int wb]) (h0 := ad 0 0) (rest := [.int (nI 0), .ref out]) hx hb hml hown hC hU (mX3_paint_b1 l hst hX v w f u kd wb hv) kV_L_29 ⟨Nat.le_of_ble_eq_true rfl, Nat.le_of_ble_eq_true rfl⟩ ⟨Nat.le_of_ble_eq_true rfl, Nat.le_of_ble_eq_true rfl⟩ (hP.recv hC cX_0 rfl) rfl hl (Nat.le_of_ble_eq_true rfl) dL_paint_13 (fun q9 ce H hS2 hce hcv hcl => ?_)
  have hS : va_S (aO L out H0) s.heap H [] := by rw [hU]; exact ⟨hS2.1, fun q h1 _ => hS2.2.1 q h1 (fun z => z), fun _ h => absurd h List.not_mem_nil⟩
  have hX := hX.kept (fun q h1 _ => hS2.2.1 q h1 (fun z => z))
  have hO : oO E out w9 H := (hS2.2.1 out hlt (fun z => z)).trans hO
  refine vx_catch hown (tableOf []) ⟨0, 18, 21, 24⟩ (tableOf [(0, 18, 25, 13), (0, 18, 29, 15)]) (htab.trans rfl) (fun z hz => absurd hz List.not_mem_nil) rfl (by decide) (hC.2.1.hts _ _ wCl_L_24) (cs_xIO hC) hce hcv hcl ?_
  refine lv_astore (lv' := [(8, .ref q9), (0, .ref (ad 0 0)), (1, .int v), (2, .int w), (3, .int f), (4, .int u), (5, .int kd), (6, .int wb), (7, .ref out)]) hx hb dL_paint_21 hl (by decide) rfl (fun ls hl => ?_)
  refine lv_iconstN hx hb 1 dL_paint_23 (by decide) ?_
  refine W.widen (k := 1) (n := 6) (by omega) (by omega) ?_
  exact mu_iret (x := nI 1) hx hb hr hlocks hS ⟨hO, ⟨L, ly, ad, hX, rfl, fun q h => Or.inl h⟩⟩ rfl dL_paint_24
set_option maxHeartbeats 4000000 in
set_option maxRecDepth 100000 in
theorem mL_paint_b2 (l : Launch) (hst : l.stackTraces = false) {E : En} {c : Cy} {ly : Ly} {L : List Nat} {ad : Nat → Nat → Nat} {H0 : Heap} (hX : PX E c ly L ad H0) {out : Nat} {w9 : Int64} (hO : oO E out w9 H0) (hoL : out ∉ L) (hob : bA E out) (h : Nat) (v f u kd wb : Int32) (hh : h < c.R 10 1) (hv : isInS v (nI 0) (nI (c.R 10 0) - nI 1) = false) : LwI l yL_paint cL_paint 9 [(0, 18, 21, 24), (0, 18, 25, 13), (0, 18, 29, 15)] (rmk 8 1 6 142) [.ref (ad 0 0), .int (nI h), .int v, .int f, .int u, .int kd, .int wb, .ref out] E H0 (nI 1) (oB H0.size E c L (ad 0 0) out w9) (aO L out H0) 1 6 := by
  obtain ⟨hP, hly, hLb, wf⟩ := id hX
  have hlt : out < H0.size := (Array.getElem?_eq_some_iff.mp hO).1
  refine lw_of (by decide) (Nat.le_of_ble_eq_true rfl) ?_
  intro p e s m below meth co ls hx hb hr hml hown hlocks htab hC hNc hU hl
  have hS : va_S (aO L out H0) s.heap H0 [] := by rw [hU]; exact va_S.rf
  have hA : ∀ q, q ∈ L → aO L out H0 q := fun q h => Or.inl h
  have hN : ∀ q, s.heap.size ≤ q → aO L out H0 q := fun q h => Or.inr (Or.inr (by rw [← hU]; exact h))
  have hAb : ∀ q, aO L out H0 q → bA E q := fun q h => h.elim (hLb q) (fun h => h.elim (fun h => by rw [h]; exact hob) (fun z => Nat.le_trans hC.2.2.2.1 (by rw [hU]; exact z)))
  have hl : lv_has ls 9 [(0, .ref (ad 0 0)), (1, .int (nI h)), (2, .int v), (3, .int f), (4, .int u), (5, .int kd), (6, .int wb), (7, .ref out)] := hl
  refine lv_aload hx hb dL_paint_0 (lv_at hl 7 rfl) ?_
  refine lv_iconstN hx hb 0 dL_paint_2 (by decide) ?_
  refine lv_aload_n hx hb dL_paint_3 rfl (lv_at hl 0 rfl) ?_
  refine lv_iload_n hx hb dL_paint_4 rfl (lv_at hl 1 rfl) ?_
  refine lv_iload_n hx hb dL_paint_5 rfl (lv_at hl 2 rfl) ?_
  refine lv_iload_n hx hb dL_paint_6 rfl (lv_at hl 3 rfl) ?_
  refine lv_iload hx hb dL_paint_7 (lv_at hl 4 rfl) ?_
  refine lv_iload hx hb dL_paint_9 (lv_at hl 5 rfl) ?_
  refine lv_iload hx hb dL_paint_11 (lv_at hl 6 rfl) ?_
  refine lw_throw (As := [.int (nI h), .int v, .int f, .int u, .int kd, .int wb]) (h0 := ad 0 0) (rest := [.int (nI 0), .ref out]) hx hb hml hown hC hU (mX3_paint_b2 l hst hX h v f u kd wb hh hv) kV_L_29 ⟨Nat.le_of_ble_eq_true rfl, Nat.le_of_ble_eq_true rfl⟩ ⟨Nat.le_of_ble_eq_true rfl, Nat.le_of_ble_eq_true rfl⟩ (hP.recv hC cX_0 rfl) rfl hl (Nat.le_of_ble_eq_true rfl) dL_paint_13 (fun q9 ce H hS2 hce hcv hcl => ?_)
  have hS : va_S (aO L out H0) s.heap H [] := by rw [hU]; exact ⟨hS2.1, fun q h1 _ => hS2.2.1 q h1 (fun z => z), fun _ h => absurd h List.not_mem_nil⟩
  have hX := hX.kept (fun q h1 _ => hS2.2.1 q h1 (fun z => z))
  have hO : oO E out w9 H := (hS2.2.1 out hlt (fun z => z)).trans hO
  refine vx_catch hown (tableOf []) ⟨0, 18, 21, 24⟩ (tableOf [(0, 18, 25, 13), (0, 18, 29, 15)]) (htab.trans rfl) (fun z hz => absurd hz List.not_mem_nil) rfl (by decide) (hC.2.1.hts _ _ wCl_L_24) (cs_xIO hC) hce hcv hcl ?_
  refine lv_astore (lv' := [(8, .ref q9), (0, .ref (ad 0 0)), (1, .int (nI h)), (2, .int v), (3, .int f), (4, .int u), (5, .int kd), (6, .int wb), (7, .ref out)]) hx hb dL_paint_21 hl (by decide) rfl (fun ls hl => ?_)
  refine lv_iconstN hx hb 1 dL_paint_23 (by decide) ?_
  refine W.widen (k := 1) (n := 6) (by omega) (by omega) ?_
  exact mu_iret (x := nI 1) hx hb hr hlocks hS ⟨hO, ⟨L, ly, ad, hX, rfl, fun q h => Or.inl h⟩⟩ rfl dL_paint_24
set_option maxHeartbeats 4000000 in
set_option maxRecDepth 100000 in
theorem mL_paint_b3 (l : Launch) (hst : l.stackTraces = false) {E : En} {c : Cy} {ly : Ly} {L : List Nat} {ad : Nat → Nat → Nat} {H0 : Heap} (hX : PX E c ly L ad H0) {out : Nat} {w9 : Int64} (hO : oO E out w9 H0) (hoL : out ∉ L) (hob : bA E out) (h i : Nat) (f u kd wb : Int32) (hh : h < c.R 10 1) (hi : i < c.R 10 0) (ha : paiOK c i f u kd wb = false) : LwI l yL_paint cL_paint 9 [(0, 18, 21, 24), (0, 18, 25, 13), (0, 18, 29, 15)] (rmk 7 1 6 121) [.ref (ad 0 0), .int (nI h), .int (nI i), .int f, .int u, .int kd, .int wb, .ref out] E H0 (nI 2) (oB H0.size E c L (ad 0 0) out w9) (aO L out H0) 1 6 := by
  obtain ⟨hP, hly, hLb, wf⟩ := id hX
  have hlt : out < H0.size := (Array.getElem?_eq_some_iff.mp hO).1
  refine lw_of (by decide) (Nat.le_of_ble_eq_true rfl) ?_
  intro p e s m below meth co ls hx hb hr hml hown hlocks htab hC hNc hU hl
  have hS : va_S (aO L out H0) s.heap H0 [] := by rw [hU]; exact va_S.rf
  have hA : ∀ q, q ∈ L → aO L out H0 q := fun q h => Or.inl h
  have hN : ∀ q, s.heap.size ≤ q → aO L out H0 q := fun q h => Or.inr (Or.inr (by rw [← hU]; exact h))
  have hAb : ∀ q, aO L out H0 q → bA E q := fun q h => h.elim (hLb q) (fun h => h.elim (fun h => by rw [h]; exact hob) (fun z => Nat.le_trans hC.2.2.2.1 (by rw [hU]; exact z)))
  have hl : lv_has ls 9 [(0, .ref (ad 0 0)), (1, .int (nI h)), (2, .int (nI i)), (3, .int f), (4, .int u), (5, .int kd), (6, .int wb), (7, .ref out)] := hl
  refine lv_aload hx hb dL_paint_0 (lv_at hl 7 rfl) ?_
  refine lv_iconstN hx hb 0 dL_paint_2 (by decide) ?_
  refine lv_aload_n hx hb dL_paint_3 rfl (lv_at hl 0 rfl) ?_
  refine lv_iload_n hx hb dL_paint_4 rfl (lv_at hl 1 rfl) ?_
  refine lv_iload_n hx hb dL_paint_5 rfl (lv_at hl 2 rfl) ?_
  refine lv_iload_n hx hb dL_paint_6 rfl (lv_at hl 3 rfl) ?_
  refine lv_iload hx hb dL_paint_7 (lv_at hl 4 rfl) ?_
  refine lv_iload hx hb dL_paint_9 (lv_at hl 5 rfl) ?_
  refine lv_iload hx hb dL_paint_11 (lv_at hl 6 rfl) ?_
  refine lw_throw (As := [.int (nI h), .int (nI i), .int f, .int u, .int kd, .int wb]) (h0 := ad 0 0) (rest := [.int (nI 0), .ref out]) hx hb hml hown hC hU (mX3_paint_b3 l hst hX h i f u kd wb hh hi ha) kV_L_29 ⟨Nat.le_of_ble_eq_true rfl, Nat.le_of_ble_eq_true rfl⟩ ⟨Nat.le_of_ble_eq_true rfl, Nat.le_of_ble_eq_true rfl⟩ (hP.recv hC cX_0 rfl) rfl hl (Nat.le_of_ble_eq_true rfl) dL_paint_13 (fun q9 ce H hS2 hce hcv hcl => ?_)
  have hS : va_S (aO L out H0) s.heap H [] := by rw [hU]; exact ⟨hS2.1, fun q h1 _ => hS2.2.1 q h1 (fun z => z), fun _ h => absurd h List.not_mem_nil⟩
  have hX := hX.kept (fun q h1 _ => hS2.2.1 q h1 (fun z => z))
  have hO : oO E out w9 H := (hS2.2.1 out hlt (fun z => z)).trans hO
  refine vx_catch hown (tableOf [(0, 18, 21, 24)]) ⟨0, 18, 25, 13⟩ (tableOf [(0, 18, 29, 15)]) (htab.trans rfl) (fun z hz => by rw [List.mem_singleton.mp hz]; exact Or.inr ⟨by decide, xIO, hC.2.1.hts _ _ wCl_L_24, hNc.1⟩) rfl (by decide) (hC.2.1.hts _ _ wCl_L_13) (cs_xIA hC) hce hcv hcl ?_
  refine lv_astore (lv' := [(8, .ref q9), (0, .ref (ad 0 0)), (1, .int (nI h)), (2, .int (nI i)), (3, .int f), (4, .int u), (5, .int kd), (6, .int wb), (7, .ref out)]) hx hb dL_paint_25 hl (by decide) rfl (fun ls hl => ?_)
  refine lv_iconstN hx hb 2 dL_paint_27 (by decide) ?_
  refine W.widen (k := 1) (n := 6) (by omega) (by omega) ?_
  exact mu_iret (x := nI 2) hx hb hr hlocks hS ⟨hO, ⟨L, ly, ad, hX, rfl, fun q h => Or.inl h⟩⟩ rfl dL_paint_28
set_option maxHeartbeats 4000000 in
set_option maxRecDepth 100000 in
theorem mL_paint_b4 (l : Launch) (hst : l.stackTraces = false) {E : En} {c : Cy} {ly : Ly} {L : List Nat} {ad : Nat → Nat → Nat} {H0 : Heap} (hX : PX E c ly L ad H0) {out : Nat} {w9 : Int64} (hO : oO E out w9 H0) (hoL : out ∉ L) (hob : bA E out) (h i f u kd : Nat) (wb : Int32) (hh : h < c.R 10 1) (hi : i < c.R 10 0) (hp : hasS c i (nI f) (nI u) = true) (hu : u ≤ 16) (hkd : kd < 4) (hw : isInS wb (-2) (nI 2) = true) (hs : 360 - c.R 3 h < u * mcS c h kd ∨ 60 ≤ c.R 10 2) : LwI l yL_paint cL_paint 9 [(0, 18, 21, 24), (0, 18, 25, 13), (0, 18, 29, 15)] (rmk 7 1 6 121) [.ref (ad 0 0), .int (nI h), .int (nI i), .int (nI f), .int (nI u), .int (nI kd), .int wb, .ref out] E H0 (nI 3) (oB H0.size E c L (ad 0 0) out w9) (aO L out H0) 1 6 := by
  obtain ⟨hP, hly, hLb, wf⟩ := id hX
  have hlt : out < H0.size := (Array.getElem?_eq_some_iff.mp hO).1
  refine lw_of (by decide) (Nat.le_of_ble_eq_true rfl) ?_
  intro p e s m below meth co ls hx hb hr hml hown hlocks htab hC hNc hU hl
  have hS : va_S (aO L out H0) s.heap H0 [] := by rw [hU]; exact va_S.rf
  have hA : ∀ q, q ∈ L → aO L out H0 q := fun q h => Or.inl h
  have hN : ∀ q, s.heap.size ≤ q → aO L out H0 q := fun q h => Or.inr (Or.inr (by rw [← hU]; exact h))
  have hAb : ∀ q, aO L out H0 q → bA E q := fun q h => h.elim (hLb q) (fun h => h.elim (fun h => by rw [h]; exact hob) (fun z => Nat.le_trans hC.2.2.2.1 (by rw [hU]; exact z)))
  have hl : lv_has ls 9 [(0, .ref (ad 0 0)), (1, .int (nI h)), (2, .int (nI i)), (3, .int (nI f)), (4, .int (nI u)), (5, .int (nI kd)), (6, .int wb), (7, .ref out)] := hl
  refine lv_aload hx hb dL_paint_0 (lv_at hl 7 rfl) ?_
  refine lv_iconstN hx hb 0 dL_paint_2 (by decide) ?_
  refine lv_aload_n hx hb dL_paint_3 rfl (lv_at hl 0 rfl) ?_
  refine lv_iload_n hx hb dL_paint_4 rfl (lv_at hl 1 rfl) ?_
  refine lv_iload_n hx hb dL_paint_5 rfl (lv_at hl 2 rfl) ?_
  refine lv_iload_n hx hb dL_paint_6 rfl (lv_at hl 3 rfl) ?_
  refine lv_iload hx hb dL_paint_7 (lv_at hl 4 rfl) ?_
  refine lv_iload hx hb dL_paint_9 (lv_at hl 5 rfl) ?_
  refine lv_iload hx hb dL_paint_11 (lv_at hl 6 rfl) ?_
  refine lw_throw (As := [.int (nI h), .int (nI i), .int (nI f), .int (nI u), .int (nI kd), .int wb]) (h0 := ad 0 0) (rest := [.int (nI 0), .ref out]) hx hb hml hown hC hU (mX3_paint_b4 l hst hX h i f u kd wb hh hi hp hu hkd hw hs) kV_L_29 ⟨Nat.le_of_ble_eq_true rfl, Nat.le_of_ble_eq_true rfl⟩ ⟨Nat.le_of_ble_eq_true rfl, Nat.le_of_ble_eq_true rfl⟩ (hP.recv hC cX_0 rfl) rfl hl (Nat.le_of_ble_eq_true rfl) dL_paint_13 (fun q9 ce H hS2 hce hcv hcl => ?_)
  have hS : va_S (aO L out H0) s.heap H [] := by rw [hU]; exact ⟨hS2.1, fun q h1 _ => hS2.2.1 q h1 (fun z => z), fun _ h => absurd h List.not_mem_nil⟩
  have hX := hX.kept (fun q h1 _ => hS2.2.1 q h1 (fun z => z))
  have hO : oO E out w9 H := (hS2.2.1 out hlt (fun z => z)).trans hO
  refine vx_catch hown (tableOf [(0, 18, 21, 24), (0, 18, 25, 13)]) ⟨0, 18, 29, 15⟩ (tableOf []) (htab.trans rfl) (fun z hz => (List.mem_cons.mp hz).elim (fun hz => by rw [hz]; exact Or.inr ⟨by decide, xIO, hC.2.1.hts _ _ wCl_L_24, hNc.2.2⟩) (fun hz => by rw [List.mem_singleton.mp hz]; exact Or.inr ⟨by decide, xIA, hC.2.1.hts _ _ wCl_L_13, hNc.2.1⟩)) rfl (by decide) (hC.2.1.hts _ _ wCl_L_15) (cs_xIS hC) hce hcv hcl ?_
  refine lv_astore (lv' := [(8, .ref q9), (0, .ref (ad 0 0)), (1, .int (nI h)), (2, .int (nI i)), (3, .int (nI f)), (4, .int (nI u)), (5, .int (nI kd)), (6, .int wb), (7, .ref out)]) hx hb dL_paint_29 hl (by decide) rfl (fun ls hl => ?_)
  refine lv_iconstN hx hb 3 dL_paint_31 (by decide) ?_
  refine W.widen (k := 1) (n := 6) (by omega) (by omega) ?_
  exact mu_iret (x := nI 3) hx hb hr hlocks hS ⟨hO, ⟨L, ly, ad, hX, rfl, fun q h => Or.inl h⟩⟩ rfl dL_paint_32
set_option maxHeartbeats 4000000 in
set_option maxRecDepth 100000 in
theorem mL_paint_g (l : Launch) {E : En} {c : Cy} {ly : Ly} {L : List Nat} {ad : Nat → Nat → Nat} {H0 : Heap} (hX : PX E c ly L ad H0) {out : Nat} {w9 : Int64} (hO : oO E out w9 H0) (hoL : out ∉ L) (hob : bA E out) (h i f u kd : Nat) (wb : Int32) (hh : h < c.R 10 1) (hi : i < c.R 10 0) (hp : hasS c i (nI f) (nI u) = true) (hu : 1 ≤ u ∧ u ≤ 16) (hf : f + u ≤ c.R 1 i) (hkd : kd < 4) (hw : isInS wb (-2) (nI 2) = true) (hs : u * mcS c h kd ≤ 360 - c.R 3 h) (hs2 : c.R 10 2 < 60) (heq : c.R 10 2 = c.R 11 2) : LwI l yL_paint cL_paint 9 [(0, 18, 21, 24), (0, 18, 25, 13), (0, 18, 29, 15)] (rmk 8 2 211 232) [.ref (ad 0 0), .int (nI h), .int (nI i), .int (nI f), .int (nI u), .int (nI kd), .int wb, .ref out] E H0 (nI 0) (oB H0.size E (ptC c h i f u kd wb) L (ad 0 0) out ((nI (cwrS c h i f u kd)).toInt64)) (aO L out H0) 2 211 := by
  obtain ⟨hP, hly, hLb, wf⟩ := id hX
  have hlt : out < H0.size := (Array.getElem?_eq_some_iff.mp hO).1
  refine lw_of (by decide) (Nat.le_of_ble_eq_true rfl) ?_
  intro p e s m below meth co ls hx hb hr hml hown hlocks htab hC hNc hU hl
  have hS : va_S (aO L out H0) s.heap H0 [] := by rw [hU]; exact va_S.rf
  have hA : ∀ q, q ∈ L → aO L out H0 q := fun q h => Or.inl h
  have hN : ∀ q, s.heap.size ≤ q → aO L out H0 q := fun q h => Or.inr (Or.inr (by rw [← hU]; exact h))
  have hAb : ∀ q, aO L out H0 q → bA E q := fun q h => h.elim (hLb q) (fun h => h.elim (fun h => by rw [h]; exact hob) (fun z => Nat.le_trans hC.2.2.2.1 (by rw [hU]; exact z)))
  have hl : lv_has ls 9 [(0, .ref (ad 0 0)), (1, .int (nI h)), (2, .int (nI i)), (3, .int (nI f)), (4, .int (nI u)), (5, .int (nI kd)), (6, .int wb), (7, .ref out)] := hl
  refine lv_aload hx hb dL_paint_0 (lv_at hl 7 rfl) ?_
  refine lv_iconstN hx hb 0 dL_paint_2 (by decide) ?_
  refine lv_aload_n hx hb dL_paint_3 rfl (lv_at hl 0 rfl) ?_
  refine lv_iload_n hx hb dL_paint_4 rfl (lv_at hl 1 rfl) ?_
  refine lv_iload_n hx hb dL_paint_5 rfl (lv_at hl 2 rfl) ?_
  refine lv_iload_n hx hb dL_paint_6 rfl (lv_at hl 3 rfl) ?_
  refine lv_iload hx hb dL_paint_7 (lv_at hl 4 rfl) ?_
  refine lv_iload hx hb dL_paint_9 (lv_at hl 5 rfl) ?_
  refine lv_iload hx hb dL_paint_11 (lv_at hl 6 rfl) ?_
  refine mu_V (As := [.int (nI h), .int (nI i), .int (nI f), .int (nI u), .int (nI kd), .int wb]) (h0 := ad 0 0) (rest := [.int (nI 0), .ref out]) (v := nI (cwrS c h i f u kd)) hx hb hml hown hC hS hAb (mX3_paint_g l hX h i f u kd wb hh hi hp hu hf hkd hw hs hs2 heq) (fun q h => h.elim (hA q) (fun z => hN q (by rw [hU]; exact z))) kV_L_29 ⟨rfl, rfl⟩ ⟨Nat.le_of_ble_eq_true rfl, Nat.le_of_ble_eq_true rfl⟩ (hP.recv hC cX_0 rfl) rfl hl (Nat.le_of_ble_eq_true rfl) ⟨Nat.le_of_ble_eq_true rfl, Nat.le_of_ble_eq_true rfl⟩ dL_paint_13 (fun H locs hB hS hz hk => ?_)
  have hO : oO E out w9 H := (hk out hlt (fun h => h.elim hoL (fun h => absurd hlt (Nat.not_lt.mpr h)))).trans hO
  obtain ⟨L2, ly2, ad2, hX, e00, hL2⟩ := hB
  have hoL2 : out ∉ L2 := fun h => (hL2 out h).elim hoL (fun h => absurd hlt (Nat.not_lt.mpr h))
  refine lv_i2l (v := (nI (cwrS c h i f u kd)).toInt64) hx hb dL_paint_16 rfl ?_
  refine lw_last hx hb hC hO hS (Or.inr (Or.inl rfl)) dL_paint_17 (fun H locs hO hz1 hk1 hS => ?_)
  have hX := hX.kept (fun q _ h => hk1 q (fun z => hoL2 (by rw [← z]; exact h)))
  refine lv_goto (tgt := 33) hx hb dL_paint_18 (by decide) ?_
  refine lv_iconstN hx hb 0 dL_paint_33 (by decide) ?_
  refine W.widen (k := 2) (n := 211) (by omega) (by omega) ?_
  exact mu_iret (x := nI 0) hx hb hr hlocks hS ⟨hO, ⟨L2, ly2, ad2, hX, e00, hL2⟩⟩ rfl dL_paint_34
set_option maxHeartbeats 4000000 in
set_option maxRecDepth 100000 in
theorem mL_buff_g (l : Launch) {E : En} {c : Cy} {ly : Ly} {L : List Nat} {ad : Nat → Nat → Nat} {H0 : Heap} (hX : PX E c ly L ad H0) {out : Nat} {w9 : Int64} (hO : oO E out w9 H0) (hoL : out ∉ L) (hob : bA E out) (i : Nat) (hi : i < c.R 10 0) (hc : ¬ c.I 0 0 < nI (ctbS c i)) : LwI l yL_buff cL_buff 4 [(0, 9, 12, 24), (0, 9, 15, 15)] (rmk 5 0 0 113) [.ref (ad 0 0), .int (nI i), .ref out] E H0 (nI 0) (oB H0.size E (c.R, up2 c.I 0 0 (c.I 0 0 - nI (ctbS c i)), c.B, c.Wr, mk1 c.sh i (c.R 1 i) (tbS c i)) L (ad 0 0) out ((nI (ctbS c i)).toInt64)) (aO L out H0) 0 0 := by
  obtain ⟨hP, hly, hLb, wf⟩ := id hX
  have hlt : out < H0.size := (Array.getElem?_eq_some_iff.mp hO).1
  refine lw_of (by decide) (Nat.le_of_ble_eq_true rfl) ?_
  intro p e s m below meth co ls hx hb hr hml hown hlocks htab hC hNc hU hl
  have hS : va_S (aO L out H0) s.heap H0 [] := by rw [hU]; exact va_S.rf
  have hA : ∀ q, q ∈ L → aO L out H0 q := fun q h => Or.inl h
  have hN : ∀ q, s.heap.size ≤ q → aO L out H0 q := fun q h => Or.inr (Or.inr (by rw [← hU]; exact h))
  have hAb : ∀ q, aO L out H0 q → bA E q := fun q h => h.elim (hLb q) (fun h => h.elim (fun h => by rw [h]; exact hob) (fun z => Nat.le_trans hC.2.2.2.1 (by rw [hU]; exact z)))
  have hl : lv_has ls 4 [(0, .ref (ad 0 0)), (1, .int (nI i)), (2, .ref out)] := hl
  refine lv_aload_n hx hb dL_buff_0 rfl (lv_at hl 2 rfl) ?_
  refine lv_iconstN hx hb 0 dL_buff_1 (by decide) ?_
  refine lv_aload_n hx hb dL_buff_2 rfl (lv_at hl 0 rfl) ?_
  refine lv_iload_n hx hb dL_buff_3 rfl (lv_at hl 1 rfl) ?_
  refine mu_V (As := [.int (nI i)]) (h0 := ad 0 0) (rest := [.int (nI 0), .ref out]) (v := nI (ctbS c i)) hx hb hml hown hC hS hAb (mX3_buff_g l hX i hi hc) (fun q h => h.elim (hA q) (fun z => hN q (by rw [hU]; exact z))) kV_L_33 ⟨rfl, rfl⟩ ⟨Nat.le_of_ble_eq_true rfl, Nat.le_of_ble_eq_true rfl⟩ (hP.recv hC cX_0 rfl) rfl hl (Nat.le_of_ble_eq_true rfl) ⟨Nat.le_of_ble_eq_true rfl, Nat.le_of_ble_eq_true rfl⟩ dL_buff_4 (fun H locs hB hS hz hk => ?_)
  have hO : oO E out w9 H := (hk out hlt (fun h => h.elim hoL (fun h => absurd hlt (Nat.not_lt.mpr h)))).trans hO
  have hX : PX E (c.R, up2 c.I 0 0 (c.I 0 0 - nI (ctbS c i)), c.B, c.Wr, mk1 c.sh i (c.R 1 i) (tbS c i)) ly L ad H := hB
  have hoL2 := hoL
  refine lv_i2l (v := (nI (ctbS c i)).toInt64) hx hb dL_buff_7 rfl ?_
  refine lw_last hx hb hC hO hS (Or.inr (Or.inl rfl)) dL_buff_8 (fun H locs hO hz1 hk1 hS => ?_)
  have hX := hX.kept (fun q _ h => hk1 q (fun z => hoL2 (by rw [← z]; exact h)))
  refine lv_goto (tgt := 18) hx hb dL_buff_9 (by decide) ?_
  refine lv_iconstN hx hb 0 dL_buff_18 (by decide) ?_
  refine W.widen (k := 0) (n := 0) (by omega) (by omega) ?_
  exact mu_iret (x := nI 0) hx hb hr hlocks hS ⟨hO, ⟨L, ly, ad, hX, rfl, fun q h => Or.inl h⟩⟩ rfl dL_buff_19
set_option maxHeartbeats 4000000 in
set_option maxRecDepth 100000 in
theorem mL_buff_b1 (l : Launch) (hst : l.stackTraces = false) {E : En} {c : Cy} {ly : Ly} {L : List Nat} {ad : Nat → Nat → Nat} {H0 : Heap} (hX : PX E c ly L ad H0) {out : Nat} {w9 : Int64} (hO : oO E out w9 H0) (hoL : out ∉ L) (hob : bA E out) (v : Int32) (hv : isInS v (nI 0) (nI (c.R 10 0) - nI 1) = false) : LwI l yL_buff cL_buff 4 [(0, 9, 12, 24), (0, 9, 15, 15)] (rmk 8 1 6 135) [.ref (ad 0 0), .int v, .ref out] E H0 (nI 1) (oB H0.size E c L (ad 0 0) out w9) (aO L out H0) 1 6 := by
  obtain ⟨hP, hly, hLb, wf⟩ := id hX
  have hlt : out < H0.size := (Array.getElem?_eq_some_iff.mp hO).1
  refine lw_of (by decide) (Nat.le_of_ble_eq_true rfl) ?_
  intro p e s m below meth co ls hx hb hr hml hown hlocks htab hC hNc hU hl
  have hS : va_S (aO L out H0) s.heap H0 [] := by rw [hU]; exact va_S.rf
  have hA : ∀ q, q ∈ L → aO L out H0 q := fun q h => Or.inl h
  have hN : ∀ q, s.heap.size ≤ q → aO L out H0 q := fun q h => Or.inr (Or.inr (by rw [← hU]; exact h))
  have hAb : ∀ q, aO L out H0 q → bA E q := fun q h => h.elim (hLb q) (fun h => h.elim (fun h => by rw [h]; exact hob) (fun z => Nat.le_trans hC.2.2.2.1 (by rw [hU]; exact z)))
  have hl : lv_has ls 4 [(0, .ref (ad 0 0)), (1, .int v), (2, .ref out)] := hl
  refine lv_aload_n hx hb dL_buff_0 rfl (lv_at hl 2 rfl) ?_
  refine lv_iconstN hx hb 0 dL_buff_1 (by decide) ?_
  refine lv_aload_n hx hb dL_buff_2 rfl (lv_at hl 0 rfl) ?_
  refine lv_iload_n hx hb dL_buff_3 rfl (lv_at hl 1 rfl) ?_
  refine lw_throw (As := [.int v]) (h0 := ad 0 0) (rest := [.int (nI 0), .ref out]) hx hb hml hown hC hU (mX3_buff_b1 l hst hX v hv) kV_L_33 ⟨Nat.le_of_ble_eq_true rfl, Nat.le_of_ble_eq_true rfl⟩ ⟨Nat.le_of_ble_eq_true rfl, Nat.le_of_ble_eq_true rfl⟩ (hP.recv hC cX_0 rfl) rfl hl (Nat.le_of_ble_eq_true rfl) dL_buff_4 (fun q9 ce H hS2 hce hcv hcl => ?_)
  have hS : va_S (aO L out H0) s.heap H [] := by rw [hU]; exact ⟨hS2.1, fun q h1 _ => hS2.2.1 q h1 (fun z => z), fun _ h => absurd h List.not_mem_nil⟩
  have hX := hX.kept (fun q h1 _ => hS2.2.1 q h1 (fun z => z))
  have hO : oO E out w9 H := (hS2.2.1 out hlt (fun z => z)).trans hO
  refine vx_catch hown (tableOf []) ⟨0, 9, 12, 24⟩ (tableOf [(0, 9, 15, 15)]) (htab.trans rfl) (fun z hz => absurd hz List.not_mem_nil) rfl (by decide) (hC.2.1.hts _ _ wCl_L_24) (cs_xIO hC) hce hcv hcl ?_
  refine lv_astore_n (lv' := [(3, .ref q9), (0, .ref (ad 0 0)), (1, .int v), (2, .ref out)]) hx hb dL_buff_12 rfl hl (by decide) rfl (fun ls hl => ?_)
  refine lv_iconstN hx hb 1 dL_buff_13 (by decide) ?_
  refine W.widen (k := 1) (n := 6) (by omega) (by omega) ?_
  exact mu_iret (x := nI 1) hx hb hr hlocks hS ⟨hO, ⟨L, ly, ad, hX, rfl, fun q h => Or.inl h⟩⟩ rfl dL_buff_14
set_option maxHeartbeats 4000000 in
set_option maxRecDepth 100000 in
theorem mL_buff_b2 (l : Launch) (hst : l.stackTraces = false) {E : En} {c : Cy} {ly : Ly} {L : List Nat} {ad : Nat → Nat → Nat} {H0 : Heap} (hX : PX E c ly L ad H0) {out : Nat} {w9 : Int64} (hO : oO E out w9 H0) (hoL : out ∉ L) (hob : bA E out) (i : Nat) (hi : i < c.R 10 0) (hc : c.I 0 0 < nI (ctbS c i)) : LwI l yL_buff cL_buff 4 [(0, 9, 12, 24), (0, 9, 15, 15)] (rmk 7 1 6 114) [.ref (ad 0 0), .int (nI i), .ref out] E H0 (nI 2) (oB H0.size E c L (ad 0 0) out w9) (aO L out H0) 1 6 := by
  obtain ⟨hP, hly, hLb, wf⟩ := id hX
  have hlt : out < H0.size := (Array.getElem?_eq_some_iff.mp hO).1
  refine lw_of (by decide) (Nat.le_of_ble_eq_true rfl) ?_
  intro p e s m below meth co ls hx hb hr hml hown hlocks htab hC hNc hU hl
  have hS : va_S (aO L out H0) s.heap H0 [] := by rw [hU]; exact va_S.rf
  have hA : ∀ q, q ∈ L → aO L out H0 q := fun q h => Or.inl h
  have hN : ∀ q, s.heap.size ≤ q → aO L out H0 q := fun q h => Or.inr (Or.inr (by rw [← hU]; exact h))
  have hAb : ∀ q, aO L out H0 q → bA E q := fun q h => h.elim (hLb q) (fun h => h.elim (fun h => by rw [h]; exact hob) (fun z => Nat.le_trans hC.2.2.2.1 (by rw [hU]; exact z)))
  have hl : lv_has ls 4 [(0, .ref (ad 0 0)), (1, .int (nI i)), (2, .ref out)] := hl
  refine lv_aload_n hx hb dL_buff_0 rfl (lv_at hl 2 rfl) ?_
  refine lv_iconstN hx hb 0 dL_buff_1 (by decide) ?_
  refine lv_aload_n hx hb dL_buff_2 rfl (lv_at hl 0 rfl) ?_
  refine lv_iload_n hx hb dL_buff_3 rfl (lv_at hl 1 rfl) ?_
  refine lw_throw (As := [.int (nI i)]) (h0 := ad 0 0) (rest := [.int (nI 0), .ref out]) hx hb hml hown hC hU (mX3_buff_b2 l hst hX i hi hc) kV_L_33 ⟨Nat.le_of_ble_eq_true rfl, Nat.le_of_ble_eq_true rfl⟩ ⟨Nat.le_of_ble_eq_true rfl, Nat.le_of_ble_eq_true rfl⟩ (hP.recv hC cX_0 rfl) rfl hl (Nat.le_of_ble_eq_true rfl) dL_buff_4 (fun q9 ce H hS2 hce hcv hcl => ?_)
  have hS : va_S (aO L out H0) s.heap H [] := by rw [hU]; exact ⟨hS2.1, fun q h1 _ => hS2.2.1 q h1 (fun z => z), fun _ h => absurd h List.not_mem_nil⟩
  have hX := hX.kept (fun q h1 _ => hS2.2.1 q h1 (fun z => z))
  have hO : oO E out w9 H := (hS2.2.1 out hlt (fun z => z)).trans hO
  refine vx_catch hown (tableOf [(0, 9, 12, 24)]) ⟨0, 9, 15, 15⟩ (tableOf []) (htab.trans rfl) (fun z hz => by rw [List.mem_singleton.mp hz]; exact Or.inr ⟨by decide, xIO, hC.2.1.hts _ _ wCl_L_24, hNc.2.2⟩) rfl (by decide) (hC.2.1.hts _ _ wCl_L_15) (cs_xIS hC) hce hcv hcl ?_
  refine lv_astore_n (lv' := [(3, .ref q9), (0, .ref (ad 0 0)), (1, .int (nI i)), (2, .ref out)]) hx hb dL_buff_15 rfl hl (by decide) rfl (fun ls hl => ?_)
  refine lv_iconstN hx hb 2 dL_buff_16 (by decide) ?_
  refine W.widen (k := 1) (n := 6) (by omega) (by omega) ?_
  exact mu_iret (x := nI 2) hx hb hr hlocks hS ⟨hO, ⟨L, ly, ad, hX, rfl, fun q h => Or.inl h⟩⟩ rfl dL_buff_17
set_option maxHeartbeats 4000000 in
set_option maxRecDepth 100000 in
theorem mL_clear_g (l : Launch) {E : En} {c : Cy} {ly : Ly} {L : List Nat} {ad : Nat → Nat → Nat} {H0 : Heap} (hX : PX E c ly L ad H0) {out : Nat} {w9 : Int64} (hO : oO E out w9 H0) (hoL : out ∉ L) (hob : bA E out) (i : Nat) (hi : i < c.R 10 0) : LwI l yL_clear cL_clear 4 [(0, 9, 12, 24)] (rmk 5 0 0 111) [.ref (ad 0 0), .int (nI i), .ref out] E H0 (nI 0) (oB H0.size E (c.R, clI c i (c.R 1 i), c.B, c.Wr, mk1 c.sh i (c.R 1 i) (fun _ => true)) L (ad 0 0) out ((clT c i (c.R 1 i)).toInt64)) (aO L out H0) 0 0 := by
  obtain ⟨hP, hly, hLb, wf⟩ := id hX
  have hlt : out < H0.size := (Array.getElem?_eq_some_iff.mp hO).1
  refine lw_of (by decide) (Nat.le_of_ble_eq_true rfl) ?_
  intro p e s m below meth co ls hx hb hr hml hown hlocks htab hC hNc hU hl
  have hS : va_S (aO L out H0) s.heap H0 [] := by rw [hU]; exact va_S.rf
  have hA : ∀ q, q ∈ L → aO L out H0 q := fun q h => Or.inl h
  have hN : ∀ q, s.heap.size ≤ q → aO L out H0 q := fun q h => Or.inr (Or.inr (by rw [← hU]; exact h))
  have hAb : ∀ q, aO L out H0 q → bA E q := fun q h => h.elim (hLb q) (fun h => h.elim (fun h => by rw [h]; exact hob) (fun z => Nat.le_trans hC.2.2.2.1 (by rw [hU]; exact z)))
  have hl : lv_has ls 4 [(0, .ref (ad 0 0)), (1, .int (nI i)), (2, .ref out)] := hl
  refine lv_aload_n hx hb dL_clear_0 rfl (lv_at hl 2 rfl) ?_
  refine lv_iconstN hx hb 0 dL_clear_1 (by decide) ?_
  refine lv_aload_n hx hb dL_clear_2 rfl (lv_at hl 0 rfl) ?_
  refine lv_iload_n hx hb dL_clear_3 rfl (lv_at hl 1 rfl) ?_
  refine mu_V (As := [.int (nI i)]) (h0 := ad 0 0) (rest := [.int (nI 0), .ref out]) (v := clT c i (c.R 1 i)) hx hb hml hown hC hS hAb (mX3_clear_g l hX i hi) (fun q h => h.elim (hA q) (fun z => hN q (by rw [hU]; exact z))) kV_L_37 ⟨rfl, rfl⟩ ⟨Nat.le_of_ble_eq_true rfl, Nat.le_of_ble_eq_true rfl⟩ (hP.recv hC cX_0 rfl) rfl hl (Nat.le_of_ble_eq_true rfl) ⟨Nat.le_of_ble_eq_true rfl, Nat.le_of_ble_eq_true rfl⟩ dL_clear_4 (fun H locs hB hS hz hk => ?_)
  have hO : oO E out w9 H := (hk out hlt (fun h => h.elim hoL (fun h => absurd hlt (Nat.not_lt.mpr h)))).trans hO
  have hX : PX E (c.R, clI c i (c.R 1 i), c.B, c.Wr, mk1 c.sh i (c.R 1 i) (fun _ => true)) ly L ad H := hB
  have hoL2 := hoL
  refine lv_i2l (v := (clT c i (c.R 1 i)).toInt64) hx hb dL_clear_7 rfl ?_
  refine lw_last hx hb hC hO hS (Or.inr (Or.inl rfl)) dL_clear_8 (fun H locs hO hz1 hk1 hS => ?_)
  have hX := hX.kept (fun q _ h => hk1 q (fun z => hoL2 (by rw [← z]; exact h)))
  refine lv_goto (tgt := 15) hx hb dL_clear_9 (by decide) ?_
  refine lv_iconstN hx hb 0 dL_clear_15 (by decide) ?_
  refine W.widen (k := 0) (n := 0) (by omega) (by omega) ?_
  exact mu_iret (x := nI 0) hx hb hr hlocks hS ⟨hO, ⟨L, ly, ad, hX, rfl, fun q h => Or.inl h⟩⟩ rfl dL_clear_16
set_option maxHeartbeats 4000000 in
set_option maxRecDepth 100000 in
theorem mL_clear_b1 (l : Launch) (hst : l.stackTraces = false) {E : En} {c : Cy} {ly : Ly} {L : List Nat} {ad : Nat → Nat → Nat} {H0 : Heap} (hX : PX E c ly L ad H0) {out : Nat} {w9 : Int64} (hO : oO E out w9 H0) (hoL : out ∉ L) (hob : bA E out) (v : Int32) (hv : isInS v (nI 0) (nI (c.R 10 0) - nI 1) = false) : LwI l yL_clear cL_clear 4 [(0, 9, 12, 24)] (rmk 8 1 6 137) [.ref (ad 0 0), .int v, .ref out] E H0 (nI 1) (oB H0.size E c L (ad 0 0) out w9) (aO L out H0) 1 6 := by
  obtain ⟨hP, hly, hLb, wf⟩ := id hX
  have hlt : out < H0.size := (Array.getElem?_eq_some_iff.mp hO).1
  refine lw_of (by decide) (Nat.le_of_ble_eq_true rfl) ?_
  intro p e s m below meth co ls hx hb hr hml hown hlocks htab hC hNc hU hl
  have hS : va_S (aO L out H0) s.heap H0 [] := by rw [hU]; exact va_S.rf
  have hA : ∀ q, q ∈ L → aO L out H0 q := fun q h => Or.inl h
  have hN : ∀ q, s.heap.size ≤ q → aO L out H0 q := fun q h => Or.inr (Or.inr (by rw [← hU]; exact h))
  have hAb : ∀ q, aO L out H0 q → bA E q := fun q h => h.elim (hLb q) (fun h => h.elim (fun h => by rw [h]; exact hob) (fun z => Nat.le_trans hC.2.2.2.1 (by rw [hU]; exact z)))
  have hl : lv_has ls 4 [(0, .ref (ad 0 0)), (1, .int v), (2, .ref out)] := hl
  refine lv_aload_n hx hb dL_clear_0 rfl (lv_at hl 2 rfl) ?_
  refine lv_iconstN hx hb 0 dL_clear_1 (by decide) ?_
  refine lv_aload_n hx hb dL_clear_2 rfl (lv_at hl 0 rfl) ?_
  refine lv_iload_n hx hb dL_clear_3 rfl (lv_at hl 1 rfl) ?_
  refine lw_throw (As := [.int v]) (h0 := ad 0 0) (rest := [.int (nI 0), .ref out]) hx hb hml hown hC hU (mX3_clear_b1 l hst hX v hv) kV_L_37 ⟨Nat.le_of_ble_eq_true rfl, Nat.le_of_ble_eq_true rfl⟩ ⟨Nat.le_of_ble_eq_true rfl, Nat.le_of_ble_eq_true rfl⟩ (hP.recv hC cX_0 rfl) rfl hl (Nat.le_of_ble_eq_true rfl) dL_clear_4 (fun q9 ce H hS2 hce hcv hcl => ?_)
  have hS : va_S (aO L out H0) s.heap H [] := by rw [hU]; exact ⟨hS2.1, fun q h1 _ => hS2.2.1 q h1 (fun z => z), fun _ h => absurd h List.not_mem_nil⟩
  have hX := hX.kept (fun q h1 _ => hS2.2.1 q h1 (fun z => z))
  have hO : oO E out w9 H := (hS2.2.1 out hlt (fun z => z)).trans hO
  refine vx_catch hown (tableOf []) ⟨0, 9, 12, 24⟩ (tableOf []) (htab.trans rfl) (fun z hz => absurd hz List.not_mem_nil) rfl (by decide) (hC.2.1.hts _ _ wCl_L_24) (cs_xIO hC) hce hcv hcl ?_
  refine lv_astore_n (lv' := [(3, .ref q9), (0, .ref (ad 0 0)), (1, .int v), (2, .ref out)]) hx hb dL_clear_12 rfl hl (by decide) rfl (fun ls hl => ?_)
  refine lv_iconstN hx hb 1 dL_clear_13 (by decide) ?_
  refine W.widen (k := 1) (n := 6) (by omega) (by omega) ?_
  exact mu_iret (x := nI 1) hx hb hr hlocks hS ⟨hO, ⟨L, ly, ad, hX, rfl, fun q h => Or.inl h⟩⟩ rfl dL_clear_14
set_option maxHeartbeats 4000000 in
set_option maxRecDepth 100000 in
theorem mL_sell_g (l : Launch) {E : En} {c : Cy} {ly : Ly} {L : List Nat} {ad : Nat → Nat → Nat} {H0 : Heap} (hX : PX E c ly L ad H0) {out : Nat} {w9 : Int64} (hO : oO E out w9 H0) (hoL : out ∉ L) (hob : bA E out) (j : Nat) (hj : j < c.R 10 2) (hs : decide (0 < seenS c j) = true) : LwI l yL_sell cL_sell 4 [(0, 9, 12, 24), (0, 9, 15, 15)] (rmk 6 0 0 133) [.ref (ad 0 0), .int (nI j), .ref out] E H0 (nI 0) (oB H0.size E (c.R, up2 c.I 1 0 (c.I 1 0 + prS c j), c.B, c.Wr, mk1 c.sh (c.R 6 j) (c.R 1 (c.R 6 j)) (shwB c (c.R 6 j) j)) L (ad 0 0) out ((prS c j).toInt64)) (aO L out H0) 0 0 := by
  obtain ⟨hP, hly, hLb, wf⟩ := id hX
  have hlt : out < H0.size := (Array.getElem?_eq_some_iff.mp hO).1
  refine lw_of (by decide) (Nat.le_of_ble_eq_true rfl) ?_
  intro p e s m below meth co ls hx hb hr hml hown hlocks htab hC hNc hU hl
  have hS : va_S (aO L out H0) s.heap H0 [] := by rw [hU]; exact va_S.rf
  have hA : ∀ q, q ∈ L → aO L out H0 q := fun q h => Or.inl h
  have hN : ∀ q, s.heap.size ≤ q → aO L out H0 q := fun q h => Or.inr (Or.inr (by rw [← hU]; exact h))
  have hAb : ∀ q, aO L out H0 q → bA E q := fun q h => h.elim (hLb q) (fun h => h.elim (fun h => by rw [h]; exact hob) (fun z => Nat.le_trans hC.2.2.2.1 (by rw [hU]; exact z)))
  have hl : lv_has ls 4 [(0, .ref (ad 0 0)), (1, .int (nI j)), (2, .ref out)] := hl
  refine lv_aload_n hx hb dL_sell_0 rfl (lv_at hl 2 rfl) ?_
  refine lv_iconstN hx hb 0 dL_sell_1 (by decide) ?_
  refine lv_aload_n hx hb dL_sell_2 rfl (lv_at hl 0 rfl) ?_
  refine lv_iload_n hx hb dL_sell_3 rfl (lv_at hl 1 rfl) ?_
  refine mu_V (As := [.int (nI j)]) (h0 := ad 0 0) (rest := [.int (nI 0), .ref out]) (v := prS c j) hx hb hml hown hC hS hAb (mX3_sell_g l hX j hj hs) (fun q h => h.elim (hA q) (fun z => hN q (by rw [hU]; exact z))) kV_L_40 ⟨rfl, rfl⟩ ⟨Nat.le_of_ble_eq_true rfl, Nat.le_of_ble_eq_true rfl⟩ (hP.recv hC cX_0 rfl) rfl hl (Nat.le_of_ble_eq_true rfl) ⟨Nat.le_of_ble_eq_true rfl, Nat.le_of_ble_eq_true rfl⟩ dL_sell_4 (fun H locs hB hS hz hk => ?_)
  have hO : oO E out w9 H := (hk out hlt (fun h => h.elim hoL (fun h => absurd hlt (Nat.not_lt.mpr h)))).trans hO
  have hX : PX E (c.R, up2 c.I 1 0 (c.I 1 0 + prS c j), c.B, c.Wr, mk1 c.sh (c.R 6 j) (c.R 1 (c.R 6 j)) (shwB c (c.R 6 j) j)) ly L ad H := hB
  have hoL2 := hoL
  refine lv_i2l (v := (prS c j).toInt64) hx hb dL_sell_7 rfl ?_
  refine lw_last hx hb hC hO hS (Or.inr (Or.inl rfl)) dL_sell_8 (fun H locs hO hz1 hk1 hS => ?_)
  have hX := hX.kept (fun q _ h => hk1 q (fun z => hoL2 (by rw [← z]; exact h)))
  refine lv_goto (tgt := 18) hx hb dL_sell_9 (by decide) ?_
  refine lv_iconstN hx hb 0 dL_sell_18 (by decide) ?_
  refine W.widen (k := 0) (n := 0) (by omega) (by omega) ?_
  exact mu_iret (x := nI 0) hx hb hr hlocks hS ⟨hO, ⟨L, ly, ad, hX, rfl, fun q h => Or.inl h⟩⟩ rfl dL_sell_19
set_option maxHeartbeats 4000000 in
set_option maxRecDepth 100000 in
theorem mL_sell_b1 (l : Launch) (hst : l.stackTraces = false) {E : En} {c : Cy} {ly : Ly} {L : List Nat} {ad : Nat → Nat → Nat} {H0 : Heap} (hX : PX E c ly L ad H0) {out : Nat} {w9 : Int64} (hO : oO E out w9 H0) (hoL : out ∉ L) (hob : bA E out) (v : Int32) (hv : isInS v (nI 0) (nI (c.R 10 2) - nI 1) = false) : LwI l yL_sell cL_sell 4 [(0, 9, 12, 24), (0, 9, 15, 15)] (rmk 8 1 6 134) [.ref (ad 0 0), .int v, .ref out] E H0 (nI 1) (oB H0.size E c L (ad 0 0) out w9) (aO L out H0) 1 6 := by
  obtain ⟨hP, hly, hLb, wf⟩ := id hX
  have hlt : out < H0.size := (Array.getElem?_eq_some_iff.mp hO).1
  refine lw_of (by decide) (Nat.le_of_ble_eq_true rfl) ?_
  intro p e s m below meth co ls hx hb hr hml hown hlocks htab hC hNc hU hl
  have hS : va_S (aO L out H0) s.heap H0 [] := by rw [hU]; exact va_S.rf
  have hA : ∀ q, q ∈ L → aO L out H0 q := fun q h => Or.inl h
  have hN : ∀ q, s.heap.size ≤ q → aO L out H0 q := fun q h => Or.inr (Or.inr (by rw [← hU]; exact h))
  have hAb : ∀ q, aO L out H0 q → bA E q := fun q h => h.elim (hLb q) (fun h => h.elim (fun h => by rw [h]; exact hob) (fun z => Nat.le_trans hC.2.2.2.1 (by rw [hU]; exact z)))
  have hl : lv_has ls 4 [(0, .ref (ad 0 0)), (1, .int v), (2, .ref out)] := hl
  refine lv_aload_n hx hb dL_sell_0 rfl (lv_at hl 2 rfl) ?_
  refine lv_iconstN hx hb 0 dL_sell_1 (by decide) ?_
  refine lv_aload_n hx hb dL_sell_2 rfl (lv_at hl 0 rfl) ?_
  refine lv_iload_n hx hb dL_sell_3 rfl (lv_at hl 1 rfl) ?_
  refine lw_throw (As := [.int v]) (h0 := ad 0 0) (rest := [.int (nI 0), .ref out]) hx hb hml hown hC hU (mX3_sell_b1 l hst hX v hv) kV_L_40 ⟨Nat.le_of_ble_eq_true rfl, Nat.le_of_ble_eq_true rfl⟩ ⟨Nat.le_of_ble_eq_true rfl, Nat.le_of_ble_eq_true rfl⟩ (hP.recv hC cX_0 rfl) rfl hl (Nat.le_of_ble_eq_true rfl) dL_sell_4 (fun q9 ce H hS2 hce hcv hcl => ?_)
  have hS : va_S (aO L out H0) s.heap H [] := by rw [hU]; exact ⟨hS2.1, fun q h1 _ => hS2.2.1 q h1 (fun z => z), fun _ h => absurd h List.not_mem_nil⟩
  have hX := hX.kept (fun q h1 _ => hS2.2.1 q h1 (fun z => z))
  have hO : oO E out w9 H := (hS2.2.1 out hlt (fun z => z)).trans hO
  refine vx_catch hown (tableOf []) ⟨0, 9, 12, 24⟩ (tableOf [(0, 9, 15, 15)]) (htab.trans rfl) (fun z hz => absurd hz List.not_mem_nil) rfl (by decide) (hC.2.1.hts _ _ wCl_L_24) (cs_xIO hC) hce hcv hcl ?_
  refine lv_astore_n (lv' := [(3, .ref q9), (0, .ref (ad 0 0)), (1, .int v), (2, .ref out)]) hx hb dL_sell_12 rfl hl (by decide) rfl (fun ls hl => ?_)
  refine lv_iconstN hx hb 1 dL_sell_13 (by decide) ?_
  refine W.widen (k := 1) (n := 6) (by omega) (by omega) ?_
  exact mu_iret (x := nI 1) hx hb hr hlocks hS ⟨hO, ⟨L, ly, ad, hX, rfl, fun q h => Or.inl h⟩⟩ rfl dL_sell_14
set_option maxHeartbeats 4000000 in
set_option maxRecDepth 100000 in
theorem mL_sell_b2 (l : Launch) (hst : l.stackTraces = false) {E : En} {c : Cy} {ly : Ly} {L : List Nat} {ad : Nat → Nat → Nat} {H0 : Heap} (hX : PX E c ly L ad H0) {out : Nat} {w9 : Int64} (hO : oO E out w9 H0) (hoL : out ∉ L) (hob : bA E out) (j : Nat) (hj : j < c.R 10 2) (hs : decide (0 < seenS c j) = false) : LwI l yL_sell cL_sell 4 [(0, 9, 12, 24), (0, 9, 15, 15)] (rmk 7 1 6 113) [.ref (ad 0 0), .int (nI j), .ref out] E H0 (nI 2) (oB H0.size E c L (ad 0 0) out w9) (aO L out H0) 1 6 := by
  obtain ⟨hP, hly, hLb, wf⟩ := id hX
  have hlt : out < H0.size := (Array.getElem?_eq_some_iff.mp hO).1
  refine lw_of (by decide) (Nat.le_of_ble_eq_true rfl) ?_
  intro p e s m below meth co ls hx hb hr hml hown hlocks htab hC hNc hU hl
  have hS : va_S (aO L out H0) s.heap H0 [] := by rw [hU]; exact va_S.rf
  have hA : ∀ q, q ∈ L → aO L out H0 q := fun q h => Or.inl h
  have hN : ∀ q, s.heap.size ≤ q → aO L out H0 q := fun q h => Or.inr (Or.inr (by rw [← hU]; exact h))
  have hAb : ∀ q, aO L out H0 q → bA E q := fun q h => h.elim (hLb q) (fun h => h.elim (fun h => by rw [h]; exact hob) (fun z => Nat.le_trans hC.2.2.2.1 (by rw [hU]; exact z)))
  have hl : lv_has ls 4 [(0, .ref (ad 0 0)), (1, .int (nI j)), (2, .ref out)] := hl
  refine lv_aload_n hx hb dL_sell_0 rfl (lv_at hl 2 rfl) ?_
  refine lv_iconstN hx hb 0 dL_sell_1 (by decide) ?_
  refine lv_aload_n hx hb dL_sell_2 rfl (lv_at hl 0 rfl) ?_
  refine lv_iload_n hx hb dL_sell_3 rfl (lv_at hl 1 rfl) ?_
  refine lw_throw (As := [.int (nI j)]) (h0 := ad 0 0) (rest := [.int (nI 0), .ref out]) hx hb hml hown hC hU (mX3_sell_b2 l hst hX j hj hs) kV_L_40 ⟨Nat.le_of_ble_eq_true rfl, Nat.le_of_ble_eq_true rfl⟩ ⟨Nat.le_of_ble_eq_true rfl, Nat.le_of_ble_eq_true rfl⟩ (hP.recv hC cX_0 rfl) rfl hl (Nat.le_of_ble_eq_true rfl) dL_sell_4 (fun q9 ce H hS2 hce hcv hcl => ?_)
  have hS : va_S (aO L out H0) s.heap H [] := by rw [hU]; exact ⟨hS2.1, fun q h1 _ => hS2.2.1 q h1 (fun z => z), fun _ h => absurd h List.not_mem_nil⟩
  have hX := hX.kept (fun q h1 _ => hS2.2.1 q h1 (fun z => z))
  have hO : oO E out w9 H := (hS2.2.1 out hlt (fun z => z)).trans hO
  refine vx_catch hown (tableOf [(0, 9, 12, 24)]) ⟨0, 9, 15, 15⟩ (tableOf []) (htab.trans rfl) (fun z hz => by rw [List.mem_singleton.mp hz]; exact Or.inr ⟨by decide, xIO, hC.2.1.hts _ _ wCl_L_24, hNc.2.2⟩) rfl (by decide) (hC.2.1.hts _ _ wCl_L_15) (cs_xIS hC) hce hcv hcl ?_
  refine lv_astore_n (lv' := [(3, .ref q9), (0, .ref (ad 0 0)), (1, .int (nI j)), (2, .ref out)]) hx hb dL_sell_15 rfl hl (by decide) rfl (fun ls hl => ?_)
  refine lv_iconstN hx hb 2 dL_sell_16 (by decide) ?_
  refine W.widen (k := 1) (n := 6) (by omega) (by omega) ?_
  exact mu_iret (x := nI 2) hx hb hr hlocks hS ⟨hO, ⟨L, ly, ad, hX, rfl, fun q h => Or.inl h⟩⟩ rfl dL_sell_17
set_option maxHeartbeats 4000000 in
set_option maxRecDepth 100000 in
theorem mL_waive_g (l : Launch) {E : En} {c : Cy} {ly : Ly} {L : List Nat} {ad : Nat → Nat → Nat} {H0 : Heap} (hX : PX E c ly L ad H0) {out : Nat} {w9 : Int64} (hO : oO E out w9 H0) (hoL : out ∉ L) (hob : bA E out) (j : Nat) (hj : j < c.R 10 2) : LwI l yL_waive cL_waive 4 [(0, 16, 19, 24)] (rmk 5 0 0 108) [.ref (ad 0 0), .int (nI j), .ref out] E H0 (nI 0) (oB H0.size E (c.R, c.I, up2 c.B 2 j true, c.Wr, c.sh) L (ad 0 0) out (bL (!c.B 2 j))) (aO L out H0) 0 0 := by
  obtain ⟨hP, hly, hLb, wf⟩ := id hX
  have hlt : out < H0.size := (Array.getElem?_eq_some_iff.mp hO).1
  refine lw_of (by decide) (Nat.le_of_ble_eq_true rfl) ?_
  intro p e s m below meth co ls hx hb hr hml hown hlocks htab hC hNc hU hl
  have hS : va_S (aO L out H0) s.heap H0 [] := by rw [hU]; exact va_S.rf
  have hA : ∀ q, q ∈ L → aO L out H0 q := fun q h => Or.inl h
  have hN : ∀ q, s.heap.size ≤ q → aO L out H0 q := fun q h => Or.inr (Or.inr (by rw [← hU]; exact h))
  have hAb : ∀ q, aO L out H0 q → bA E q := fun q h => h.elim (hLb q) (fun h => h.elim (fun h => by rw [h]; exact hob) (fun z => Nat.le_trans hC.2.2.2.1 (by rw [hU]; exact z)))
  have hl : lv_has ls 4 [(0, .ref (ad 0 0)), (1, .int (nI j)), (2, .ref out)] := hl
  refine lv_aload_n hx hb dL_waive_0 rfl (lv_at hl 2 rfl) ?_
  refine lv_iconstN hx hb 0 dL_waive_1 (by decide) ?_
  refine lv_aload_n hx hb dL_waive_2 rfl (lv_at hl 0 rfl) ?_
  refine lv_iload_n hx hb dL_waive_3 rfl (lv_at hl 1 rfl) ?_
  refine mu_V (As := [.int (nI j)]) (h0 := ad 0 0) (rest := [.int (nI 0), .ref out]) (v := bI (!c.B 2 j)) hx hb hml hown hC hS hAb (mX3_waive_g l hX j hj) (fun q h => h.elim (hA q) (fun z => hN q (by rw [hU]; exact z))) kV_L_43 ⟨rfl, rfl⟩ ⟨Nat.le_of_ble_eq_true rfl, Nat.le_of_ble_eq_true rfl⟩ (hP.recv hC cX_0 rfl) rfl hl (Nat.le_of_ble_eq_true rfl) ⟨Nat.le_of_ble_eq_true rfl, Nat.le_of_ble_eq_true rfl⟩ dL_waive_4 (fun H locs hB hS hz hk => ?_)
  have hO : oO E out w9 H := (hk out hlt (fun h => h.elim hoL (fun h => absurd hlt (Nat.not_lt.mpr h)))).trans hO
  have hX : PX E (c.R, c.I, up2 c.B 2 j true, c.Wr, c.sh) ly L ad H := hB
  have hoL2 := hoL
  refine lv_bif_eq (tgt := 14) hx hb dL_waive_7 (by decide) (fun c_7 => ?_) (fun c_7 => ?_)
  · skip
    refine lv_lconst (v := 0) hx hb dL_waive_14 rfl ?_
    refine lw_last hx hb hC hO hS (Or.inr (Or.inl rfl)) dL_waive_15 (fun H locs hO hz1 hk1 hS => ?_)
    have hX := hX.kept (fun q _ h => hk1 q (fun z => hoL2 (by rw [← z]; exact h)))
    refine lv_goto (tgt := 22) hx hb dL_waive_16 (by decide) ?_
    refine lv_iconstN hx hb 0 dL_waive_22 (by decide) ?_
    refine W.widen (k := 0) (n := 0) (by omega) (by omega) ?_
    exact mu_iret (x := nI 0) hx hb hr hlocks hS ⟨(by rw [c_7]; exact hO), ⟨L, ly, ad, hX, rfl, fun q h => Or.inl h⟩⟩ rfl dL_waive_23
  · skip
    refine lv_lconst (v := 1) hx hb dL_waive_10 rfl ?_
    refine lv_goto (tgt := 15) hx hb dL_waive_11 (by decide) ?_
    refine lw_last hx hb hC hO hS (Or.inr (Or.inl rfl)) dL_waive_15 (fun H locs hO hz1 hk1 hS => ?_)
    have hX := hX.kept (fun q _ h => hk1 q (fun z => hoL2 (by rw [← z]; exact h)))
    refine lv_goto (tgt := 22) hx hb dL_waive_16 (by decide) ?_
    refine lv_iconstN hx hb 0 dL_waive_22 (by decide) ?_
    refine W.widen (k := 0) (n := 0) (by omega) (by omega) ?_
    exact mu_iret (x := nI 0) hx hb hr hlocks hS ⟨(by rw [c_7]; exact hO), ⟨L, ly, ad, hX, rfl, fun q h => Or.inl h⟩⟩ rfl dL_waive_23
set_option maxHeartbeats 4000000 in
set_option maxRecDepth 100000 in
theorem mL_waive_b1 (l : Launch) (hst : l.stackTraces = false) {E : En} {c : Cy} {ly : Ly} {L : List Nat} {ad : Nat → Nat → Nat} {H0 : Heap} (hX : PX E c ly L ad H0) {out : Nat} {w9 : Int64} (hO : oO E out w9 H0) (hoL : out ∉ L) (hob : bA E out) (v : Int32) (hv : isInS v (nI 0) (nI (c.R 10 2) - nI 1) = false) : LwI l yL_waive cL_waive 4 [(0, 16, 19, 24)] (rmk 8 1 6 134) [.ref (ad 0 0), .int v, .ref out] E H0 (nI 1) (oB H0.size E c L (ad 0 0) out w9) (aO L out H0) 1 6 := by
  obtain ⟨hP, hly, hLb, wf⟩ := id hX
  have hlt : out < H0.size := (Array.getElem?_eq_some_iff.mp hO).1
  refine lw_of (by decide) (Nat.le_of_ble_eq_true rfl) ?_
  intro p e s m below meth co ls hx hb hr hml hown hlocks htab hC hNc hU hl
  have hS : va_S (aO L out H0) s.heap H0 [] := by rw [hU]; exact va_S.rf
  have hA : ∀ q, q ∈ L → aO L out H0 q := fun q h => Or.inl h
  have hN : ∀ q, s.heap.size ≤ q → aO L out H0 q := fun q h => Or.inr (Or.inr (by rw [← hU]; exact h))
  have hAb : ∀ q, aO L out H0 q → bA E q := fun q h => h.elim (hLb q) (fun h => h.elim (fun h => by rw [h]; exact hob) (fun z => Nat.le_trans hC.2.2.2.1 (by rw [hU]; exact z)))
  have hl : lv_has ls 4 [(0, .ref (ad 0 0)), (1, .int v), (2, .ref out)] := hl
  refine lv_aload_n hx hb dL_waive_0 rfl (lv_at hl 2 rfl) ?_
  refine lv_iconstN hx hb 0 dL_waive_1 (by decide) ?_
  refine lv_aload_n hx hb dL_waive_2 rfl (lv_at hl 0 rfl) ?_
  refine lv_iload_n hx hb dL_waive_3 rfl (lv_at hl 1 rfl) ?_
  refine lw_throw (As := [.int v]) (h0 := ad 0 0) (rest := [.int (nI 0), .ref out]) hx hb hml hown hC hU (mX3_waive_b1 l hst hX v hv) kV_L_43 ⟨Nat.le_of_ble_eq_true rfl, Nat.le_of_ble_eq_true rfl⟩ ⟨Nat.le_of_ble_eq_true rfl, Nat.le_of_ble_eq_true rfl⟩ (hP.recv hC cX_0 rfl) rfl hl (Nat.le_of_ble_eq_true rfl) dL_waive_4 (fun q9 ce H hS2 hce hcv hcl => ?_)
  have hS : va_S (aO L out H0) s.heap H [] := by rw [hU]; exact ⟨hS2.1, fun q h1 _ => hS2.2.1 q h1 (fun z => z), fun _ h => absurd h List.not_mem_nil⟩
  have hX := hX.kept (fun q h1 _ => hS2.2.1 q h1 (fun z => z))
  have hO : oO E out w9 H := (hS2.2.1 out hlt (fun z => z)).trans hO
  refine vx_catch hown (tableOf []) ⟨0, 16, 19, 24⟩ (tableOf []) (htab.trans rfl) (fun z hz => absurd hz List.not_mem_nil) rfl (by decide) (hC.2.1.hts _ _ wCl_L_24) (cs_xIO hC) hce hcv hcl ?_
  refine lv_astore_n (lv' := [(3, .ref q9), (0, .ref (ad 0 0)), (1, .int v), (2, .ref out)]) hx hb dL_waive_19 rfl hl (by decide) rfl (fun ls hl => ?_)
  refine lv_iconstN hx hb 1 dL_waive_20 (by decide) ?_
  refine W.widen (k := 1) (n := 6) (by omega) (by omega) ?_
  exact mu_iret (x := nI 1) hx hb hr hlocks hS ⟨hO, ⟨L, ly, ad, hX, rfl, fun q h => Or.inl h⟩⟩ rfl dL_waive_21
set_option maxHeartbeats 4000000 in
set_option maxRecDepth 100000 in
theorem mL_remember_g (l : Launch) {E : En} {c : Cy} {ly : Ly} {L : List Nat} {ad : Nat → Nat → Nat} {H0 : Heap} (hX : PX E c ly L ad H0) {out : Nat} {w9 : Int64} (hO : oO E out w9 H0) (hoL : out ∉ L) (hob : bA E out) (j : Nat) (hj : j < c.R 10 2) : LwI l yL_remember cL_remember 4 [(0, 16, 19, 24)] (rmk 5 0 0 108) [.ref (ad 0 0), .int (nI j), .ref out] E H0 (nI 0) (oB H0.size E (c.R, c.I, up2 c.B 3 j true, c.Wr, c.sh) L (ad 0 0) out (bL (!c.B 3 j))) (aO L out H0) 0 0 := by
  obtain ⟨hP, hly, hLb, wf⟩ := id hX
  have hlt : out < H0.size := (Array.getElem?_eq_some_iff.mp hO).1
  refine lw_of (by decide) (Nat.le_of_ble_eq_true rfl) ?_
  intro p e s m below meth co ls hx hb hr hml hown hlocks htab hC hNc hU hl
  have hS : va_S (aO L out H0) s.heap H0 [] := by rw [hU]; exact va_S.rf
  have hA : ∀ q, q ∈ L → aO L out H0 q := fun q h => Or.inl h
  have hN : ∀ q, s.heap.size ≤ q → aO L out H0 q := fun q h => Or.inr (Or.inr (by rw [← hU]; exact h))
  have hAb : ∀ q, aO L out H0 q → bA E q := fun q h => h.elim (hLb q) (fun h => h.elim (fun h => by rw [h]; exact hob) (fun z => Nat.le_trans hC.2.2.2.1 (by rw [hU]; exact z)))
  have hl : lv_has ls 4 [(0, .ref (ad 0 0)), (1, .int (nI j)), (2, .ref out)] := hl
  refine lv_aload_n hx hb dL_remember_0 rfl (lv_at hl 2 rfl) ?_
  refine lv_iconstN hx hb 0 dL_remember_1 (by decide) ?_
  refine lv_aload_n hx hb dL_remember_2 rfl (lv_at hl 0 rfl) ?_
  refine lv_iload_n hx hb dL_remember_3 rfl (lv_at hl 1 rfl) ?_
  refine mu_V (As := [.int (nI j)]) (h0 := ad 0 0) (rest := [.int (nI 0), .ref out]) (v := bI (!c.B 3 j)) hx hb hml hown hC hS hAb (mX3_remember_g l hX j hj) (fun q h => h.elim (hA q) (fun z => hN q (by rw [hU]; exact z))) kV_L_47 ⟨rfl, rfl⟩ ⟨Nat.le_of_ble_eq_true rfl, Nat.le_of_ble_eq_true rfl⟩ (hP.recv hC cX_0 rfl) rfl hl (Nat.le_of_ble_eq_true rfl) ⟨Nat.le_of_ble_eq_true rfl, Nat.le_of_ble_eq_true rfl⟩ dL_remember_4 (fun H locs hB hS hz hk => ?_)
  have hO : oO E out w9 H := (hk out hlt (fun h => h.elim hoL (fun h => absurd hlt (Nat.not_lt.mpr h)))).trans hO
  have hX : PX E (c.R, c.I, up2 c.B 3 j true, c.Wr, c.sh) ly L ad H := hB
  have hoL2 := hoL
  refine lv_bif_eq (tgt := 14) hx hb dL_remember_7 (by decide) (fun c_7 => ?_) (fun c_7 => ?_)
  · skip
    refine lv_lconst (v := 0) hx hb dL_remember_14 rfl ?_
    refine lw_last hx hb hC hO hS (Or.inr (Or.inl rfl)) dL_remember_15 (fun H locs hO hz1 hk1 hS => ?_)
    have hX := hX.kept (fun q _ h => hk1 q (fun z => hoL2 (by rw [← z]; exact h)))
    refine lv_goto (tgt := 22) hx hb dL_remember_16 (by decide) ?_
    refine lv_iconstN hx hb 0 dL_remember_22 (by decide) ?_
    refine W.widen (k := 0) (n := 0) (by omega) (by omega) ?_
    exact mu_iret (x := nI 0) hx hb hr hlocks hS ⟨(by rw [c_7]; exact hO), ⟨L, ly, ad, hX, rfl, fun q h => Or.inl h⟩⟩ rfl dL_remember_23
  · skip
    refine lv_lconst (v := 1) hx hb dL_remember_10 rfl ?_
    refine lv_goto (tgt := 15) hx hb dL_remember_11 (by decide) ?_
    refine lw_last hx hb hC hO hS (Or.inr (Or.inl rfl)) dL_remember_15 (fun H locs hO hz1 hk1 hS => ?_)
    have hX := hX.kept (fun q _ h => hk1 q (fun z => hoL2 (by rw [← z]; exact h)))
    refine lv_goto (tgt := 22) hx hb dL_remember_16 (by decide) ?_
    refine lv_iconstN hx hb 0 dL_remember_22 (by decide) ?_
    refine W.widen (k := 0) (n := 0) (by omega) (by omega) ?_
    exact mu_iret (x := nI 0) hx hb hr hlocks hS ⟨(by rw [c_7]; exact hO), ⟨L, ly, ad, hX, rfl, fun q h => Or.inl h⟩⟩ rfl dL_remember_23
set_option maxHeartbeats 4000000 in
set_option maxRecDepth 100000 in
theorem mL_remember_b1 (l : Launch) (hst : l.stackTraces = false) {E : En} {c : Cy} {ly : Ly} {L : List Nat} {ad : Nat → Nat → Nat} {H0 : Heap} (hX : PX E c ly L ad H0) {out : Nat} {w9 : Int64} (hO : oO E out w9 H0) (hoL : out ∉ L) (hob : bA E out) (v : Int32) (hv : isInS v (nI 0) (nI (c.R 10 2) - nI 1) = false) : LwI l yL_remember cL_remember 4 [(0, 16, 19, 24)] (rmk 8 1 6 134) [.ref (ad 0 0), .int v, .ref out] E H0 (nI 1) (oB H0.size E c L (ad 0 0) out w9) (aO L out H0) 1 6 := by
  obtain ⟨hP, hly, hLb, wf⟩ := id hX
  have hlt : out < H0.size := (Array.getElem?_eq_some_iff.mp hO).1
  refine lw_of (by decide) (Nat.le_of_ble_eq_true rfl) ?_
  intro p e s m below meth co ls hx hb hr hml hown hlocks htab hC hNc hU hl
  have hS : va_S (aO L out H0) s.heap H0 [] := by rw [hU]; exact va_S.rf
  have hA : ∀ q, q ∈ L → aO L out H0 q := fun q h => Or.inl h
  have hN : ∀ q, s.heap.size ≤ q → aO L out H0 q := fun q h => Or.inr (Or.inr (by rw [← hU]; exact h))
  have hAb : ∀ q, aO L out H0 q → bA E q := fun q h => h.elim (hLb q) (fun h => h.elim (fun h => by rw [h]; exact hob) (fun z => Nat.le_trans hC.2.2.2.1 (by rw [hU]; exact z)))
  have hl : lv_has ls 4 [(0, .ref (ad 0 0)), (1, .int v), (2, .ref out)] := hl
  refine lv_aload_n hx hb dL_remember_0 rfl (lv_at hl 2 rfl) ?_
  refine lv_iconstN hx hb 0 dL_remember_1 (by decide) ?_
  refine lv_aload_n hx hb dL_remember_2 rfl (lv_at hl 0 rfl) ?_
  refine lv_iload_n hx hb dL_remember_3 rfl (lv_at hl 1 rfl) ?_
  refine lw_throw (As := [.int v]) (h0 := ad 0 0) (rest := [.int (nI 0), .ref out]) hx hb hml hown hC hU (mX3_remember_b1 l hst hX v hv) kV_L_47 ⟨Nat.le_of_ble_eq_true rfl, Nat.le_of_ble_eq_true rfl⟩ ⟨Nat.le_of_ble_eq_true rfl, Nat.le_of_ble_eq_true rfl⟩ (hP.recv hC cX_0 rfl) rfl hl (Nat.le_of_ble_eq_true rfl) dL_remember_4 (fun q9 ce H hS2 hce hcv hcl => ?_)
  have hS : va_S (aO L out H0) s.heap H [] := by rw [hU]; exact ⟨hS2.1, fun q h1 _ => hS2.2.1 q h1 (fun z => z), fun _ h => absurd h List.not_mem_nil⟩
  have hX := hX.kept (fun q h1 _ => hS2.2.1 q h1 (fun z => z))
  have hO : oO E out w9 H := (hS2.2.1 out hlt (fun z => z)).trans hO
  refine vx_catch hown (tableOf []) ⟨0, 16, 19, 24⟩ (tableOf []) (htab.trans rfl) (fun z hz => absurd hz List.not_mem_nil) rfl (by decide) (hC.2.1.hts _ _ wCl_L_24) (cs_xIO hC) hce hcv hcl ?_
  refine lv_astore_n (lv' := [(3, .ref q9), (0, .ref (ad 0 0)), (1, .int v), (2, .ref out)]) hx hb dL_remember_19 rfl hl (by decide) rfl (fun ls hl => ?_)
  refine lv_iconstN hx hb 1 dL_remember_20 (by decide) ?_
  refine W.widen (k := 1) (n := 6) (by omega) (by omega) ?_
  exact mu_iret (x := nI 1) hx hb hr hlocks hS ⟨hO, ⟨L, ly, ad, hX, rfl, fun q h => Or.inl h⟩⟩ rfl dL_remember_21
set_option maxHeartbeats 4000000 in
set_option maxRecDepth 100000 in
theorem mL_pay_g (l : Launch) {E : En} {c : Cy} {ly : Ly} {L : List Nat} {ad : Nat → Nat → Nat} {H0 : Heap} (hX : PX E c ly L ad H0) {out : Nat} {w9 : Int64} (hO : oO E out w9 H0) (hoL : out ∉ L) (hob : bA E out) (h : Nat) (hh : h < c.R 10 1) : LwI l yL_pay cL_pay 4 [(0, 9, 12, 24)] (rmk 5 0 0 108) [.ref (ad 0 0), .int (nI h), .ref out] E H0 (nI 0) (oB H0.size E (c.R, up2 c.I 11 h (nI 0), c.B, c.Wr, c.sh) L (ad 0 0) out ((c.I 11 h).toInt64)) (aO L out H0) 0 0 := by
  obtain ⟨hP, hly, hLb, wf⟩ := id hX
  have hlt : out < H0.size := (Array.getElem?_eq_some_iff.mp hO).1
  refine lw_of (by decide) (Nat.le_of_ble_eq_true rfl) ?_
  intro p e s m below meth co ls hx hb hr hml hown hlocks htab hC hNc hU hl
  have hS : va_S (aO L out H0) s.heap H0 [] := by rw [hU]; exact va_S.rf
  have hA : ∀ q, q ∈ L → aO L out H0 q := fun q h => Or.inl h
  have hN : ∀ q, s.heap.size ≤ q → aO L out H0 q := fun q h => Or.inr (Or.inr (by rw [← hU]; exact h))
  have hAb : ∀ q, aO L out H0 q → bA E q := fun q h => h.elim (hLb q) (fun h => h.elim (fun h => by rw [h]; exact hob) (fun z => Nat.le_trans hC.2.2.2.1 (by rw [hU]; exact z)))
  have hl : lv_has ls 4 [(0, .ref (ad 0 0)), (1, .int (nI h)), (2, .ref out)] := hl
  refine lv_aload_n hx hb dL_pay_0 rfl (lv_at hl 2 rfl) ?_
  refine lv_iconstN hx hb 0 dL_pay_1 (by decide) ?_
  refine lv_aload_n hx hb dL_pay_2 rfl (lv_at hl 0 rfl) ?_
  refine lv_iload_n hx hb dL_pay_3 rfl (lv_at hl 1 rfl) ?_
  refine mu_V (As := [.int (nI h)]) (h0 := ad 0 0) (rest := [.int (nI 0), .ref out]) (v := c.I 11 h) hx hb hml hown hC hS hAb (mX3_pay_g l hX h hh) (fun q h => h.elim (hA q) (fun z => hN q (by rw [hU]; exact z))) kV_L_50 ⟨rfl, rfl⟩ ⟨Nat.le_of_ble_eq_true rfl, Nat.le_of_ble_eq_true rfl⟩ (hP.recv hC cX_0 rfl) rfl hl (Nat.le_of_ble_eq_true rfl) ⟨Nat.le_of_ble_eq_true rfl, Nat.le_of_ble_eq_true rfl⟩ dL_pay_4 (fun H locs hB hS hz hk => ?_)
  have hO : oO E out w9 H := (hk out hlt (fun h => h.elim hoL (fun h => absurd hlt (Nat.not_lt.mpr h)))).trans hO
  have hX : PX E (c.R, up2 c.I 11 h (nI 0), c.B, c.Wr, c.sh) ly L ad H := hB
  have hoL2 := hoL
  refine lv_i2l (v := (c.I 11 h).toInt64) hx hb dL_pay_7 rfl ?_
  refine lw_last hx hb hC hO hS (Or.inr (Or.inl rfl)) dL_pay_8 (fun H locs hO hz1 hk1 hS => ?_)
  have hX := hX.kept (fun q _ h => hk1 q (fun z => hoL2 (by rw [← z]; exact h)))
  refine lv_goto (tgt := 15) hx hb dL_pay_9 (by decide) ?_
  refine lv_iconstN hx hb 0 dL_pay_15 (by decide) ?_
  refine W.widen (k := 0) (n := 0) (by omega) (by omega) ?_
  exact mu_iret (x := nI 0) hx hb hr hlocks hS ⟨hO, ⟨L, ly, ad, hX, rfl, fun q h => Or.inl h⟩⟩ rfl dL_pay_16
set_option maxHeartbeats 4000000 in
set_option maxRecDepth 100000 in
theorem mL_pay_b1 (l : Launch) (hst : l.stackTraces = false) {E : En} {c : Cy} {ly : Ly} {L : List Nat} {ad : Nat → Nat → Nat} {H0 : Heap} (hX : PX E c ly L ad H0) {out : Nat} {w9 : Int64} (hO : oO E out w9 H0) (hoL : out ∉ L) (hob : bA E out) (v : Int32) (hv : isInS v (nI 0) (nI (c.R 10 1) - nI 1) = false) : LwI l yL_pay cL_pay 4 [(0, 9, 12, 24)] (rmk 8 1 6 134) [.ref (ad 0 0), .int v, .ref out] E H0 (nI 1) (oB H0.size E c L (ad 0 0) out w9) (aO L out H0) 1 6 := by
  obtain ⟨hP, hly, hLb, wf⟩ := id hX
  have hlt : out < H0.size := (Array.getElem?_eq_some_iff.mp hO).1
  refine lw_of (by decide) (Nat.le_of_ble_eq_true rfl) ?_
  intro p e s m below meth co ls hx hb hr hml hown hlocks htab hC hNc hU hl
  have hS : va_S (aO L out H0) s.heap H0 [] := by rw [hU]; exact va_S.rf
  have hA : ∀ q, q ∈ L → aO L out H0 q := fun q h => Or.inl h
  have hN : ∀ q, s.heap.size ≤ q → aO L out H0 q := fun q h => Or.inr (Or.inr (by rw [← hU]; exact h))
  have hAb : ∀ q, aO L out H0 q → bA E q := fun q h => h.elim (hLb q) (fun h => h.elim (fun h => by rw [h]; exact hob) (fun z => Nat.le_trans hC.2.2.2.1 (by rw [hU]; exact z)))
  have hl : lv_has ls 4 [(0, .ref (ad 0 0)), (1, .int v), (2, .ref out)] := hl
  refine lv_aload_n hx hb dL_pay_0 rfl (lv_at hl 2 rfl) ?_
  refine lv_iconstN hx hb 0 dL_pay_1 (by decide) ?_
  refine lv_aload_n hx hb dL_pay_2 rfl (lv_at hl 0 rfl) ?_
  refine lv_iload_n hx hb dL_pay_3 rfl (lv_at hl 1 rfl) ?_
  refine lw_throw (As := [.int v]) (h0 := ad 0 0) (rest := [.int (nI 0), .ref out]) hx hb hml hown hC hU (mX3_pay_b1 l hst hX v hv) kV_L_50 ⟨Nat.le_of_ble_eq_true rfl, Nat.le_of_ble_eq_true rfl⟩ ⟨Nat.le_of_ble_eq_true rfl, Nat.le_of_ble_eq_true rfl⟩ (hP.recv hC cX_0 rfl) rfl hl (Nat.le_of_ble_eq_true rfl) dL_pay_4 (fun q9 ce H hS2 hce hcv hcl => ?_)
  have hS : va_S (aO L out H0) s.heap H [] := by rw [hU]; exact ⟨hS2.1, fun q h1 _ => hS2.2.1 q h1 (fun z => z), fun _ h => absurd h List.not_mem_nil⟩
  have hX := hX.kept (fun q h1 _ => hS2.2.1 q h1 (fun z => z))
  have hO : oO E out w9 H := (hS2.2.1 out hlt (fun z => z)).trans hO
  refine vx_catch hown (tableOf []) ⟨0, 9, 12, 24⟩ (tableOf []) (htab.trans rfl) (fun z hz => absurd hz List.not_mem_nil) rfl (by decide) (hC.2.1.hts _ _ wCl_L_24) (cs_xIO hC) hce hcv hcl ?_
  refine lv_astore_n (lv' := [(3, .ref q9), (0, .ref (ad 0 0)), (1, .int v), (2, .ref out)]) hx hb dL_pay_12 rfl hl (by decide) rfl (fun ls hl => ?_)
  refine lv_iconstN hx hb 1 dL_pay_13 (by decide) ?_
  refine W.widen (k := 1) (n := 6) (by omega) (by omega) ?_
  exact mu_iret (x := nI 1) hx hb hr hlocks hS ⟨hO, ⟨L, ly, ad, hX, rfl, fun q h => Or.inl h⟩⟩ rfl dL_pay_14
set_option maxHeartbeats 4000000 in
set_option maxRecDepth 100000 in
theorem mL_pass_g (l : Launch) {E : En} {c : Cy} {ly : Ly} {L : List Nat} {ad : Nat → Nat → Nat} {H0 : Heap} (hX : PX E c ly L ad H0) {out : Nat} {w9 : Int64} (hO : oO E out w9 H0) (hoL : out ∉ L) (hob : bA E out) (n : Nat) (hn : 1 ≤ n) (hn2 : n ≤ 30) (ht : c.R 0 0 + n ≤ 400) : LwI l yL_pass cL_pass 4 [(0, 9, 12, 13), (0, 9, 15, 15)] (rmk 5 0 0 110) [.ref (ad 0 0), .int (nI n), .ref out] E H0 (nI 0) (oB H0.size E ((niC c n).R, (niC c n).I, (niC c n).B, (niC c n).Wr, (niC c n).sh) L (ad 0 0) out ((nI (smN (fun k => niN (niC c k)) n)).toInt64)) (aO L out H0) 0 0 := by
  obtain ⟨hP, hly, hLb, wf⟩ := id hX
  have hlt : out < H0.size := (Array.getElem?_eq_some_iff.mp hO).1
  refine lw_of (by decide) (Nat.le_of_ble_eq_true rfl) ?_
  intro p e s m below meth co ls hx hb hr hml hown hlocks htab hC hNc hU hl
  have hS : va_S (aO L out H0) s.heap H0 [] := by rw [hU]; exact va_S.rf
  have hA : ∀ q, q ∈ L → aO L out H0 q := fun q h => Or.inl h
  have hN : ∀ q, s.heap.size ≤ q → aO L out H0 q := fun q h => Or.inr (Or.inr (by rw [← hU]; exact h))
  have hAb : ∀ q, aO L out H0 q → bA E q := fun q h => h.elim (hLb q) (fun h => h.elim (fun h => by rw [h]; exact hob) (fun z => Nat.le_trans hC.2.2.2.1 (by rw [hU]; exact z)))
  have hl : lv_has ls 4 [(0, .ref (ad 0 0)), (1, .int (nI n)), (2, .ref out)] := hl
  refine lv_aload_n hx hb dL_pass_0 rfl (lv_at hl 2 rfl) ?_
  refine lv_iconstN hx hb 0 dL_pass_1 (by decide) ?_
  refine lv_aload_n hx hb dL_pass_2 rfl (lv_at hl 0 rfl) ?_
  refine lv_iload_n hx hb dL_pass_3 rfl (lv_at hl 1 rfl) ?_
  refine mu_V (As := [.int (nI n)]) (h0 := ad 0 0) (rest := [.int (nI 0), .ref out]) (v := nI (smN (fun k => niN (niC c k)) n)) hx hb hml hown hC hS hAb (mX3_pass_g l hX n hn hn2 ht) (fun q h => h.elim (hA q) (fun z => hN q (by rw [hU]; exact z))) kV_L_53 ⟨rfl, rfl⟩ ⟨Nat.le_of_ble_eq_true rfl, Nat.le_of_ble_eq_true rfl⟩ (hP.recv hC cX_0 rfl) rfl hl (Nat.le_of_ble_eq_true rfl) ⟨Nat.le_of_ble_eq_true rfl, Nat.le_of_ble_eq_true rfl⟩ dL_pass_4 (fun H locs hB hS hz hk => ?_)
  have hO : oO E out w9 H := (hk out hlt (fun h => h.elim hoL (fun h => absurd hlt (Nat.not_lt.mpr h)))).trans hO
  have hX : PX E ((niC c n).R, (niC c n).I, (niC c n).B, (niC c n).Wr, (niC c n).sh) ly L ad H := hB
  have hoL2 := hoL
  refine lv_i2l (v := (nI (smN (fun k => niN (niC c k)) n)).toInt64) hx hb dL_pass_7 rfl ?_
  refine lw_last hx hb hC hO hS (Or.inr (Or.inl rfl)) dL_pass_8 (fun H locs hO hz1 hk1 hS => ?_)
  have hX := hX.kept (fun q _ h => hk1 q (fun z => hoL2 (by rw [← z]; exact h)))
  refine lv_goto (tgt := 18) hx hb dL_pass_9 (by decide) ?_
  refine lv_iconstN hx hb 0 dL_pass_18 (by decide) ?_
  refine W.widen (k := 0) (n := 0) (by omega) (by omega) ?_
  exact mu_iret (x := nI 0) hx hb hr hlocks hS ⟨hO, ⟨L, ly, ad, hX, rfl, fun q h => Or.inl h⟩⟩ rfl dL_pass_19
set_option maxHeartbeats 4000000 in
set_option maxRecDepth 100000 in
theorem mL_pass_b1 (l : Launch) (hst : l.stackTraces = false) {E : En} {c : Cy} {ly : Ly} {L : List Nat} {ad : Nat → Nat → Nat} {H0 : Heap} (hX : PX E c ly L ad H0) {out : Nat} {w9 : Int64} (hO : oO E out w9 H0) (hoL : out ∉ L) (hob : bA E out) (v : Int32) (hv : isInS v (nI 1) (nI 30) = false) : LwI l yL_pass cL_pass 4 [(0, 9, 12, 13), (0, 9, 15, 15)] (rmk 7 1 6 113) [.ref (ad 0 0), .int v, .ref out] E H0 (nI 1) (oB H0.size E c L (ad 0 0) out w9) (aO L out H0) 1 6 := by
  obtain ⟨hP, hly, hLb, wf⟩ := id hX
  have hlt : out < H0.size := (Array.getElem?_eq_some_iff.mp hO).1
  refine lw_of (by decide) (Nat.le_of_ble_eq_true rfl) ?_
  intro p e s m below meth co ls hx hb hr hml hown hlocks htab hC hNc hU hl
  have hS : va_S (aO L out H0) s.heap H0 [] := by rw [hU]; exact va_S.rf
  have hA : ∀ q, q ∈ L → aO L out H0 q := fun q h => Or.inl h
  have hN : ∀ q, s.heap.size ≤ q → aO L out H0 q := fun q h => Or.inr (Or.inr (by rw [← hU]; exact h))
  have hAb : ∀ q, aO L out H0 q → bA E q := fun q h => h.elim (hLb q) (fun h => h.elim (fun h => by rw [h]; exact hob) (fun z => Nat.le_trans hC.2.2.2.1 (by rw [hU]; exact z)))
  have hl : lv_has ls 4 [(0, .ref (ad 0 0)), (1, .int v), (2, .ref out)] := hl
  refine lv_aload_n hx hb dL_pass_0 rfl (lv_at hl 2 rfl) ?_
  refine lv_iconstN hx hb 0 dL_pass_1 (by decide) ?_
  refine lv_aload_n hx hb dL_pass_2 rfl (lv_at hl 0 rfl) ?_
  refine lv_iload_n hx hb dL_pass_3 rfl (lv_at hl 1 rfl) ?_
  refine lw_throw (As := [.int v]) (h0 := ad 0 0) (rest := [.int (nI 0), .ref out]) hx hb hml hown hC hU (mX3_pass_b1 l hst hX v hv) kV_L_53 ⟨Nat.le_of_ble_eq_true rfl, Nat.le_of_ble_eq_true rfl⟩ ⟨Nat.le_of_ble_eq_true rfl, Nat.le_of_ble_eq_true rfl⟩ (hP.recv hC cX_0 rfl) rfl hl (Nat.le_of_ble_eq_true rfl) dL_pass_4 (fun q9 ce H hS2 hce hcv hcl => ?_)
  have hS : va_S (aO L out H0) s.heap H [] := by rw [hU]; exact ⟨hS2.1, fun q h1 _ => hS2.2.1 q h1 (fun z => z), fun _ h => absurd h List.not_mem_nil⟩
  have hX := hX.kept (fun q h1 _ => hS2.2.1 q h1 (fun z => z))
  have hO : oO E out w9 H := (hS2.2.1 out hlt (fun z => z)).trans hO
  refine vx_catch hown (tableOf []) ⟨0, 9, 12, 13⟩ (tableOf [(0, 9, 15, 15)]) (htab.trans rfl) (fun z hz => absurd hz List.not_mem_nil) rfl (by decide) (hC.2.1.hts _ _ wCl_L_13) (cs_xIA hC) hce hcv hcl ?_
  refine lv_astore_n (lv' := [(3, .ref q9), (0, .ref (ad 0 0)), (1, .int v), (2, .ref out)]) hx hb dL_pass_12 rfl hl (by decide) rfl (fun ls hl => ?_)
  refine lv_iconstN hx hb 1 dL_pass_13 (by decide) ?_
  refine W.widen (k := 1) (n := 6) (by omega) (by omega) ?_
  exact mu_iret (x := nI 1) hx hb hr hlocks hS ⟨hO, ⟨L, ly, ad, hX, rfl, fun q h => Or.inl h⟩⟩ rfl dL_pass_14
set_option maxHeartbeats 4000000 in
set_option maxRecDepth 100000 in
theorem mL_pass_b2 (l : Launch) (hst : l.stackTraces = false) {E : En} {c : Cy} {ly : Ly} {L : List Nat} {ad : Nat → Nat → Nat} {H0 : Heap} (hX : PX E c ly L ad H0) {out : Nat} {w9 : Int64} (hO : oO E out w9 H0) (hoL : out ∉ L) (hob : bA E out) (n : Nat) (hn : 1 ≤ n) (hn2 : n ≤ 30) (ht : 400 < c.R 0 0 + n) : LwI l yL_pass cL_pass 4 [(0, 9, 12, 13), (0, 9, 15, 15)] (rmk 7 1 6 113) [.ref (ad 0 0), .int (nI n), .ref out] E H0 (nI 2) (oB H0.size E c L (ad 0 0) out w9) (aO L out H0) 1 6 := by
  obtain ⟨hP, hly, hLb, wf⟩ := id hX
  have hlt : out < H0.size := (Array.getElem?_eq_some_iff.mp hO).1
  refine lw_of (by decide) (Nat.le_of_ble_eq_true rfl) ?_
  intro p e s m below meth co ls hx hb hr hml hown hlocks htab hC hNc hU hl
  have hS : va_S (aO L out H0) s.heap H0 [] := by rw [hU]; exact va_S.rf
  have hA : ∀ q, q ∈ L → aO L out H0 q := fun q h => Or.inl h
  have hN : ∀ q, s.heap.size ≤ q → aO L out H0 q := fun q h => Or.inr (Or.inr (by rw [← hU]; exact h))
  have hAb : ∀ q, aO L out H0 q → bA E q := fun q h => h.elim (hLb q) (fun h => h.elim (fun h => by rw [h]; exact hob) (fun z => Nat.le_trans hC.2.2.2.1 (by rw [hU]; exact z)))
  have hl : lv_has ls 4 [(0, .ref (ad 0 0)), (1, .int (nI n)), (2, .ref out)] := hl
  refine lv_aload_n hx hb dL_pass_0 rfl (lv_at hl 2 rfl) ?_
  refine lv_iconstN hx hb 0 dL_pass_1 (by decide) ?_
  refine lv_aload_n hx hb dL_pass_2 rfl (lv_at hl 0 rfl) ?_
  refine lv_iload_n hx hb dL_pass_3 rfl (lv_at hl 1 rfl) ?_
  refine lw_throw (As := [.int (nI n)]) (h0 := ad 0 0) (rest := [.int (nI 0), .ref out]) hx hb hml hown hC hU (mX3_pass_b2 l hst hX n hn hn2 ht) kV_L_53 ⟨Nat.le_of_ble_eq_true rfl, Nat.le_of_ble_eq_true rfl⟩ ⟨Nat.le_of_ble_eq_true rfl, Nat.le_of_ble_eq_true rfl⟩ (hP.recv hC cX_0 rfl) rfl hl (Nat.le_of_ble_eq_true rfl) dL_pass_4 (fun q9 ce H hS2 hce hcv hcl => ?_)
  have hS : va_S (aO L out H0) s.heap H [] := by rw [hU]; exact ⟨hS2.1, fun q h1 _ => hS2.2.1 q h1 (fun z => z), fun _ h => absurd h List.not_mem_nil⟩
  have hX := hX.kept (fun q h1 _ => hS2.2.1 q h1 (fun z => z))
  have hO : oO E out w9 H := (hS2.2.1 out hlt (fun z => z)).trans hO
  refine vx_catch hown (tableOf [(0, 9, 12, 13)]) ⟨0, 9, 15, 15⟩ (tableOf []) (htab.trans rfl) (fun z hz => by rw [List.mem_singleton.mp hz]; exact Or.inr ⟨by decide, xIA, hC.2.1.hts _ _ wCl_L_13, hNc.2.1⟩) rfl (by decide) (hC.2.1.hts _ _ wCl_L_15) (cs_xIS hC) hce hcv hcl ?_
  refine lv_astore_n (lv' := [(3, .ref q9), (0, .ref (ad 0 0)), (1, .int (nI n)), (2, .ref out)]) hx hb dL_pass_15 rfl hl (by decide) rfl (fun ls hl => ?_)
  refine lv_iconstN hx hb 2 dL_pass_16 (by decide) ?_
  refine W.widen (k := 1) (n := 6) (by omega) (by omega) ?_
  exact mu_iret (x := nI 2) hx hb hr hlocks hS ⟨hO, ⟨L, ly, ad, hX, rfl, fun q h => Or.inl h⟩⟩ rfl dL_pass_17
set_option maxHeartbeats 4000000 in
set_option maxRecDepth 100000 in
theorem mL_ofWall_g (l : Launch) {E : En} {c : Cy} {ly : Ly} {L : List Nat} {ad : Nat → Nat → Nat} {H0 : Heap} (hX : PX E c ly L ad H0) {out : Nat} {w9 : Int64} (hO : oO E out w9 H0) (hoL : out ∉ L) (hob : bA E out) (i w : Nat) (hi : i < c.R 10 0) (hw : w ≤ 6) : LwI l yL_ofWall cL_ofWall 5 [(0, 10, 13, 24), (0, 10, 17, 13)] (rmk 6 0 0 133) [.ref (ad 0 0), .int (nI i), .int (nI w), .ref out] E H0 (nI 0) (oB H0.size E c L (ad 0 0) out ((owS c i (nI w)).toInt64)) (aO L out H0) 0 0 := by
  obtain ⟨hP, hly, hLb, wf⟩ := id hX
  have hlt : out < H0.size := (Array.getElem?_eq_some_iff.mp hO).1
  refine lw_of (by decide) (Nat.le_of_ble_eq_true rfl) ?_
  intro p e s m below meth co ls hx hb hr hml hown hlocks htab hC hNc hU hl
  have hS : va_S (aO L out H0) s.heap H0 [] := by rw [hU]; exact va_S.rf
  have hA : ∀ q, q ∈ L → aO L out H0 q := fun q h => Or.inl h
  have hN : ∀ q, s.heap.size ≤ q → aO L out H0 q := fun q h => Or.inr (Or.inr (by rw [← hU]; exact h))
  have hAb : ∀ q, aO L out H0 q → bA E q := fun q h => h.elim (hLb q) (fun h => h.elim (fun h => by rw [h]; exact hob) (fun z => Nat.le_trans hC.2.2.2.1 (by rw [hU]; exact z)))
  have hl : lv_has ls 5 [(0, .ref (ad 0 0)), (1, .int (nI i)), (2, .int (nI w)), (3, .ref out)] := hl
  refine lv_aload_n hx hb dL_ofWall_0 rfl (lv_at hl 3 rfl) ?_
  refine lv_iconstN hx hb 0 dL_ofWall_1 (by decide) ?_
  refine lv_aload_n hx hb dL_ofWall_2 rfl (lv_at hl 0 rfl) ?_
  refine lv_iload_n hx hb dL_ofWall_3 rfl (lv_at hl 1 rfl) ?_
  refine lv_iload_n hx hb dL_ofWall_4 rfl (lv_at hl 2 rfl) ?_
  refine ro_V (As := [.int (nI i), .int (nI w)]) (h0 := ad 0 0) (rest := [.int (nI 0), .ref out]) (v := owS c i (nI w)) hx hb hml hown hC hS hAb (mX3_ofWall_g l hX i w hi hw) kV_L_56 ⟨rfl, rfl⟩ ⟨Nat.le_of_ble_eq_true rfl, Nat.le_of_ble_eq_true rfl⟩ (hP.recv hC cX_0 rfl) rfl hl (Nat.le_of_ble_eq_true rfl) ⟨Nat.zero_le _, Nat.zero_le _⟩ dL_ofWall_5 ?_
  have hoL2 := hoL
  refine lv_i2l (v := (owS c i (nI w)).toInt64) hx hb dL_ofWall_8 rfl ?_
  refine lw_last hx hb hC hO hS (Or.inr (Or.inl rfl)) dL_ofWall_9 (fun H locs hO hz1 hk1 hS => ?_)
  have hX := hX.kept (fun q _ h => hk1 q (fun z => hoL2 (by rw [← z]; exact h)))
  refine lv_goto (tgt := 21) hx hb dL_ofWall_10 (by decide) ?_
  refine lv_iconstN hx hb 0 dL_ofWall_21 (by decide) ?_
  refine W.widen (k := 0) (n := 0) (by omega) (by omega) ?_
  exact mu_iret (x := nI 0) hx hb hr hlocks hS ⟨hO, ⟨L, ly, ad, hX, rfl, fun q h => Or.inl h⟩⟩ rfl dL_ofWall_22
set_option maxHeartbeats 4000000 in
set_option maxRecDepth 100000 in
theorem mL_ofWall_b1 (l : Launch) (hst : l.stackTraces = false) {E : En} {c : Cy} {ly : Ly} {L : List Nat} {ad : Nat → Nat → Nat} {H0 : Heap} (hX : PX E c ly L ad H0) {out : Nat} {w9 : Int64} (hO : oO E out w9 H0) (hoL : out ∉ L) (hob : bA E out) (v w : Int32) (hv : isInS v (nI 0) (nI (c.R 10 0) - nI 1) = false) : LwI l yL_ofWall cL_ofWall 5 [(0, 10, 13, 24), (0, 10, 17, 13)] (rmk 8 1 6 134) [.ref (ad 0 0), .int v, .int w, .ref out] E H0 (nI 1) (oB H0.size E c L (ad 0 0) out w9) (aO L out H0) 1 6 := by
  obtain ⟨hP, hly, hLb, wf⟩ := id hX
  have hlt : out < H0.size := (Array.getElem?_eq_some_iff.mp hO).1
  refine lw_of (by decide) (Nat.le_of_ble_eq_true rfl) ?_
  intro p e s m below meth co ls hx hb hr hml hown hlocks htab hC hNc hU hl
  have hS : va_S (aO L out H0) s.heap H0 [] := by rw [hU]; exact va_S.rf
  have hA : ∀ q, q ∈ L → aO L out H0 q := fun q h => Or.inl h
  have hN : ∀ q, s.heap.size ≤ q → aO L out H0 q := fun q h => Or.inr (Or.inr (by rw [← hU]; exact h))
  have hAb : ∀ q, aO L out H0 q → bA E q := fun q h => h.elim (hLb q) (fun h => h.elim (fun h => by rw [h]; exact hob) (fun z => Nat.le_trans hC.2.2.2.1 (by rw [hU]; exact z)))
  have hl : lv_has ls 5 [(0, .ref (ad 0 0)), (1, .int v), (2, .int w), (3, .ref out)] := hl
  refine lv_aload_n hx hb dL_ofWall_0 rfl (lv_at hl 3 rfl) ?_
  refine lv_iconstN hx hb 0 dL_ofWall_1 (by decide) ?_
  refine lv_aload_n hx hb dL_ofWall_2 rfl (lv_at hl 0 rfl) ?_
  refine lv_iload_n hx hb dL_ofWall_3 rfl (lv_at hl 1 rfl) ?_
  refine lv_iload_n hx hb dL_ofWall_4 rfl (lv_at hl 2 rfl) ?_
  refine lw_throw (As := [.int v, .int w]) (h0 := ad 0 0) (rest := [.int (nI 0), .ref out]) hx hb hml hown hC hU (mX3_ofWall_b1 l hst hX v w hv) kV_L_56 ⟨Nat.le_of_ble_eq_true rfl, Nat.le_of_ble_eq_true rfl⟩ ⟨Nat.le_of_ble_eq_true rfl, Nat.le_of_ble_eq_true rfl⟩ (hP.recv hC cX_0 rfl) rfl hl (Nat.le_of_ble_eq_true rfl) dL_ofWall_5 (fun q9 ce H hS2 hce hcv hcl => ?_)
  have hS : va_S (aO L out H0) s.heap H [] := by rw [hU]; exact ⟨hS2.1, fun q h1 _ => hS2.2.1 q h1 (fun z => z), fun _ h => absurd h List.not_mem_nil⟩
  have hX := hX.kept (fun q h1 _ => hS2.2.1 q h1 (fun z => z))
  have hO : oO E out w9 H := (hS2.2.1 out hlt (fun z => z)).trans hO
  refine vx_catch hown (tableOf []) ⟨0, 10, 13, 24⟩ (tableOf [(0, 10, 17, 13)]) (htab.trans rfl) (fun z hz => absurd hz List.not_mem_nil) rfl (by decide) (hC.2.1.hts _ _ wCl_L_24) (cs_xIO hC) hce hcv hcl ?_
  refine lv_astore (lv' := [(4, .ref q9), (0, .ref (ad 0 0)), (1, .int v), (2, .int w), (3, .ref out)]) hx hb dL_ofWall_13 hl (by decide) rfl (fun ls hl => ?_)
  refine lv_iconstN hx hb 1 dL_ofWall_15 (by decide) ?_
  refine W.widen (k := 1) (n := 6) (by omega) (by omega) ?_
  exact mu_iret (x := nI 1) hx hb hr hlocks hS ⟨hO, ⟨L, ly, ad, hX, rfl, fun q h => Or.inl h⟩⟩ rfl dL_ofWall_16
set_option maxHeartbeats 4000000 in
set_option maxRecDepth 100000 in
theorem mL_ofWall_b2 (l : Launch) (hst : l.stackTraces = false) {E : En} {c : Cy} {ly : Ly} {L : List Nat} {ad : Nat → Nat → Nat} {H0 : Heap} (hX : PX E c ly L ad H0) {out : Nat} {w9 : Int64} (hO : oO E out w9 H0) (hoL : out ∉ L) (hob : bA E out) (i : Nat) (w : Int32) (hi : i < c.R 10 0) (hw : isInS w (nI 0) (nI 6) = false) : LwI l yL_ofWall cL_ofWall 5 [(0, 10, 13, 24), (0, 10, 17, 13)] (rmk 7 1 6 113) [.ref (ad 0 0), .int (nI i), .int w, .ref out] E H0 (nI 2) (oB H0.size E c L (ad 0 0) out w9) (aO L out H0) 1 6 := by
  obtain ⟨hP, hly, hLb, wf⟩ := id hX
  have hlt : out < H0.size := (Array.getElem?_eq_some_iff.mp hO).1
  refine lw_of (by decide) (Nat.le_of_ble_eq_true rfl) ?_
  intro p e s m below meth co ls hx hb hr hml hown hlocks htab hC hNc hU hl
  have hS : va_S (aO L out H0) s.heap H0 [] := by rw [hU]; exact va_S.rf
  have hA : ∀ q, q ∈ L → aO L out H0 q := fun q h => Or.inl h
  have hN : ∀ q, s.heap.size ≤ q → aO L out H0 q := fun q h => Or.inr (Or.inr (by rw [← hU]; exact h))
  have hAb : ∀ q, aO L out H0 q → bA E q := fun q h => h.elim (hLb q) (fun h => h.elim (fun h => by rw [h]; exact hob) (fun z => Nat.le_trans hC.2.2.2.1 (by rw [hU]; exact z)))
  have hl : lv_has ls 5 [(0, .ref (ad 0 0)), (1, .int (nI i)), (2, .int w), (3, .ref out)] := hl
  refine lv_aload_n hx hb dL_ofWall_0 rfl (lv_at hl 3 rfl) ?_
  refine lv_iconstN hx hb 0 dL_ofWall_1 (by decide) ?_
  refine lv_aload_n hx hb dL_ofWall_2 rfl (lv_at hl 0 rfl) ?_
  refine lv_iload_n hx hb dL_ofWall_3 rfl (lv_at hl 1 rfl) ?_
  refine lv_iload_n hx hb dL_ofWall_4 rfl (lv_at hl 2 rfl) ?_
  refine lw_throw (As := [.int (nI i), .int w]) (h0 := ad 0 0) (rest := [.int (nI 0), .ref out]) hx hb hml hown hC hU (mX3_ofWall_b2 l hst hX i w hi hw) kV_L_56 ⟨Nat.le_of_ble_eq_true rfl, Nat.le_of_ble_eq_true rfl⟩ ⟨Nat.le_of_ble_eq_true rfl, Nat.le_of_ble_eq_true rfl⟩ (hP.recv hC cX_0 rfl) rfl hl (Nat.le_of_ble_eq_true rfl) dL_ofWall_5 (fun q9 ce H hS2 hce hcv hcl => ?_)
  have hS : va_S (aO L out H0) s.heap H [] := by rw [hU]; exact ⟨hS2.1, fun q h1 _ => hS2.2.1 q h1 (fun z => z), fun _ h => absurd h List.not_mem_nil⟩
  have hX := hX.kept (fun q h1 _ => hS2.2.1 q h1 (fun z => z))
  have hO : oO E out w9 H := (hS2.2.1 out hlt (fun z => z)).trans hO
  refine vx_catch hown (tableOf [(0, 10, 13, 24)]) ⟨0, 10, 17, 13⟩ (tableOf []) (htab.trans rfl) (fun z hz => by rw [List.mem_singleton.mp hz]; exact Or.inr ⟨by decide, xIO, hC.2.1.hts _ _ wCl_L_24, hNc.1⟩) rfl (by decide) (hC.2.1.hts _ _ wCl_L_13) (cs_xIA hC) hce hcv hcl ?_
  refine lv_astore (lv' := [(4, .ref q9), (0, .ref (ad 0 0)), (1, .int (nI i)), (2, .int w), (3, .ref out)]) hx hb dL_ofWall_17 hl (by decide) rfl (fun ls hl => ?_)
  refine lv_iconstN hx hb 2 dL_ofWall_19 (by decide) ?_
  refine W.widen (k := 1) (n := 6) (by omega) (by omega) ?_
  exact mu_iret (x := nI 2) hx hb hr hlocks hS ⟨hO, ⟨L, ly, ad, hX, rfl, fun q h => Or.inl h⟩⟩ rfl dL_ofWall_20
set_option maxHeartbeats 4000000 in
set_option maxRecDepth 100000 in
theorem mL_shows_g (l : Launch) {E : En} {c : Cy} {ly : Ly} {L : List Nat} {ad : Nat → Nat → Nat} {H0 : Heap} (hX : PX E c ly L ad H0) {out : Nat} {w9 : Int64} (hO : oO E out w9 H0) (hoL : out ∉ L) (hob : bA E out) (i k : Nat) (hi : i < c.R 10 0) (hk : k < c.R 1 i) : LwI l yL_shows cL_shows 5 [(0, 10, 13, 24)] (rmk 5 0 0 109) [.ref (ad 0 0), .int (nI i), .int (nI k), .ref out] E H0 (nI 0) (oB H0.size E c L (ad 0 0) out ((shI c i k).toInt64)) (aO L out H0) 0 0 := by
  obtain ⟨hP, hly, hLb, wf⟩ := id hX
  have hlt : out < H0.size := (Array.getElem?_eq_some_iff.mp hO).1
  refine lw_of (by decide) (Nat.le_of_ble_eq_true rfl) ?_
  intro p e s m below meth co ls hx hb hr hml hown hlocks htab hC hNc hU hl
  have hS : va_S (aO L out H0) s.heap H0 [] := by rw [hU]; exact va_S.rf
  have hA : ∀ q, q ∈ L → aO L out H0 q := fun q h => Or.inl h
  have hN : ∀ q, s.heap.size ≤ q → aO L out H0 q := fun q h => Or.inr (Or.inr (by rw [← hU]; exact h))
  have hAb : ∀ q, aO L out H0 q → bA E q := fun q h => h.elim (hLb q) (fun h => h.elim (fun h => by rw [h]; exact hob) (fun z => Nat.le_trans hC.2.2.2.1 (by rw [hU]; exact z)))
  have hl : lv_has ls 5 [(0, .ref (ad 0 0)), (1, .int (nI i)), (2, .int (nI k)), (3, .ref out)] := hl
  refine lv_aload_n hx hb dL_shows_0 rfl (lv_at hl 3 rfl) ?_
  refine lv_iconstN hx hb 0 dL_shows_1 (by decide) ?_
  refine lv_aload_n hx hb dL_shows_2 rfl (lv_at hl 0 rfl) ?_
  refine lv_iload_n hx hb dL_shows_3 rfl (lv_at hl 1 rfl) ?_
  refine lv_iload_n hx hb dL_shows_4 rfl (lv_at hl 2 rfl) ?_
  refine ro_V (As := [.int (nI i), .int (nI k)]) (h0 := ad 0 0) (rest := [.int (nI 0), .ref out]) (v := shI c i k) hx hb hml hown hC hS hAb (mX3_shows_g l hX i k hi hk) kV_L_60 ⟨rfl, rfl⟩ ⟨Nat.le_of_ble_eq_true rfl, Nat.le_of_ble_eq_true rfl⟩ (hP.recv hC cX_0 rfl) rfl hl (Nat.le_of_ble_eq_true rfl) ⟨Nat.zero_le _, Nat.zero_le _⟩ dL_shows_5 ?_
  have hoL2 := hoL
  refine lv_i2l (v := (shI c i k).toInt64) hx hb dL_shows_8 rfl ?_
  refine lw_last hx hb hC hO hS (Or.inr (Or.inl rfl)) dL_shows_9 (fun H locs hO hz1 hk1 hS => ?_)
  have hX := hX.kept (fun q _ h => hk1 q (fun z => hoL2 (by rw [← z]; exact h)))
  refine lv_goto (tgt := 17) hx hb dL_shows_10 (by decide) ?_
  refine lv_iconstN hx hb 0 dL_shows_17 (by decide) ?_
  refine W.widen (k := 0) (n := 0) (by omega) (by omega) ?_
  exact mu_iret (x := nI 0) hx hb hr hlocks hS ⟨hO, ⟨L, ly, ad, hX, rfl, fun q h => Or.inl h⟩⟩ rfl dL_shows_18
set_option maxHeartbeats 4000000 in
set_option maxRecDepth 100000 in
theorem mL_shows_b1 (l : Launch) (hst : l.stackTraces = false) {E : En} {c : Cy} {ly : Ly} {L : List Nat} {ad : Nat → Nat → Nat} {H0 : Heap} (hX : PX E c ly L ad H0) {out : Nat} {w9 : Int64} (hO : oO E out w9 H0) (hoL : out ∉ L) (hob : bA E out) (v w : Int32) (hv : isInS v (nI 0) (nI (c.R 10 0) - nI 1) = false) : LwI l yL_shows cL_shows 5 [(0, 10, 13, 24)] (rmk 8 1 6 135) [.ref (ad 0 0), .int v, .int w, .ref out] E H0 (nI 1) (oB H0.size E c L (ad 0 0) out w9) (aO L out H0) 1 6 := by
  obtain ⟨hP, hly, hLb, wf⟩ := id hX
  have hlt : out < H0.size := (Array.getElem?_eq_some_iff.mp hO).1
  refine lw_of (by decide) (Nat.le_of_ble_eq_true rfl) ?_
  intro p e s m below meth co ls hx hb hr hml hown hlocks htab hC hNc hU hl
  have hS : va_S (aO L out H0) s.heap H0 [] := by rw [hU]; exact va_S.rf
  have hA : ∀ q, q ∈ L → aO L out H0 q := fun q h => Or.inl h
  have hN : ∀ q, s.heap.size ≤ q → aO L out H0 q := fun q h => Or.inr (Or.inr (by rw [← hU]; exact h))
  have hAb : ∀ q, aO L out H0 q → bA E q := fun q h => h.elim (hLb q) (fun h => h.elim (fun h => by rw [h]; exact hob) (fun z => Nat.le_trans hC.2.2.2.1 (by rw [hU]; exact z)))
  have hl : lv_has ls 5 [(0, .ref (ad 0 0)), (1, .int v), (2, .int w), (3, .ref out)] := hl
  refine lv_aload_n hx hb dL_shows_0 rfl (lv_at hl 3 rfl) ?_
  refine lv_iconstN hx hb 0 dL_shows_1 (by decide) ?_
  refine lv_aload_n hx hb dL_shows_2 rfl (lv_at hl 0 rfl) ?_
  refine lv_iload_n hx hb dL_shows_3 rfl (lv_at hl 1 rfl) ?_
  refine lv_iload_n hx hb dL_shows_4 rfl (lv_at hl 2 rfl) ?_
  refine lw_throw (As := [.int v, .int w]) (h0 := ad 0 0) (rest := [.int (nI 0), .ref out]) hx hb hml hown hC hU (mX3_shows_b1 l hst hX v w hv) kV_L_60 ⟨Nat.le_of_ble_eq_true rfl, Nat.le_of_ble_eq_true rfl⟩ ⟨Nat.le_of_ble_eq_true rfl, Nat.le_of_ble_eq_true rfl⟩ (hP.recv hC cX_0 rfl) rfl hl (Nat.le_of_ble_eq_true rfl) dL_shows_5 (fun q9 ce H hS2 hce hcv hcl => ?_)
  have hS : va_S (aO L out H0) s.heap H [] := by rw [hU]; exact ⟨hS2.1, fun q h1 _ => hS2.2.1 q h1 (fun z => z), fun _ h => absurd h List.not_mem_nil⟩
  have hX := hX.kept (fun q h1 _ => hS2.2.1 q h1 (fun z => z))
  have hO : oO E out w9 H := (hS2.2.1 out hlt (fun z => z)).trans hO
  refine vx_catch hown (tableOf []) ⟨0, 10, 13, 24⟩ (tableOf []) (htab.trans rfl) (fun z hz => absurd hz List.not_mem_nil) rfl (by decide) (hC.2.1.hts _ _ wCl_L_24) (cs_xIO hC) hce hcv hcl ?_
  refine lv_astore (lv' := [(4, .ref q9), (0, .ref (ad 0 0)), (1, .int v), (2, .int w), (3, .ref out)]) hx hb dL_shows_13 hl (by decide) rfl (fun ls hl => ?_)
  refine lv_iconstN hx hb 1 dL_shows_15 (by decide) ?_
  refine W.widen (k := 1) (n := 6) (by omega) (by omega) ?_
  exact mu_iret (x := nI 1) hx hb hr hlocks hS ⟨hO, ⟨L, ly, ad, hX, rfl, fun q h => Or.inl h⟩⟩ rfl dL_shows_16
set_option maxHeartbeats 4000000 in
set_option maxRecDepth 100000 in
theorem mL_shows_b2 (l : Launch) (hst : l.stackTraces = false) {E : En} {c : Cy} {ly : Ly} {L : List Nat} {ad : Nat → Nat → Nat} {H0 : Heap} (hX : PX E c ly L ad H0) {out : Nat} {w9 : Int64} (hO : oO E out w9 H0) (hoL : out ∉ L) (hob : bA E out) (i : Nat) (w : Int32) (hi : i < c.R 10 0) (hw : isInS w (nI 0) (nI (c.R 1 i) - nI 1) = false) : LwI l yL_shows cL_shows 5 [(0, 10, 13, 24)] (rmk 7 1 6 114) [.ref (ad 0 0), .int (nI i), .int w, .ref out] E H0 (nI 1) (oB H0.size E c L (ad 0 0) out w9) (aO L out H0) 1 6 := by
  obtain ⟨hP, hly, hLb, wf⟩ := id hX
  have hlt : out < H0.size := (Array.getElem?_eq_some_iff.mp hO).1
  refine lw_of (by decide) (Nat.le_of_ble_eq_true rfl) ?_
  intro p e s m below meth co ls hx hb hr hml hown hlocks htab hC hNc hU hl
  have hS : va_S (aO L out H0) s.heap H0 [] := by rw [hU]; exact va_S.rf
  have hA : ∀ q, q ∈ L → aO L out H0 q := fun q h => Or.inl h
  have hN : ∀ q, s.heap.size ≤ q → aO L out H0 q := fun q h => Or.inr (Or.inr (by rw [← hU]; exact h))
  have hAb : ∀ q, aO L out H0 q → bA E q := fun q h => h.elim (hLb q) (fun h => h.elim (fun h => by rw [h]; exact hob) (fun z => Nat.le_trans hC.2.2.2.1 (by rw [hU]; exact z)))
  have hl : lv_has ls 5 [(0, .ref (ad 0 0)), (1, .int (nI i)), (2, .int w), (3, .ref out)] := hl
  refine lv_aload_n hx hb dL_shows_0 rfl (lv_at hl 3 rfl) ?_
  refine lv_iconstN hx hb 0 dL_shows_1 (by decide) ?_
  refine lv_aload_n hx hb dL_shows_2 rfl (lv_at hl 0 rfl) ?_
  refine lv_iload_n hx hb dL_shows_3 rfl (lv_at hl 1 rfl) ?_
  refine lv_iload_n hx hb dL_shows_4 rfl (lv_at hl 2 rfl) ?_
  refine lw_throw (As := [.int (nI i), .int w]) (h0 := ad 0 0) (rest := [.int (nI 0), .ref out]) hx hb hml hown hC hU (mX3_shows_b2 l hst hX i w hi hw) kV_L_60 ⟨Nat.le_of_ble_eq_true rfl, Nat.le_of_ble_eq_true rfl⟩ ⟨Nat.le_of_ble_eq_true rfl, Nat.le_of_ble_eq_true rfl⟩ (hP.recv hC cX_0 rfl) rfl hl (Nat.le_of_ble_eq_true rfl) dL_shows_5 (fun q9 ce H hS2 hce hcv hcl => ?_)
  have hS : va_S (aO L out H0) s.heap H [] := by rw [hU]; exact ⟨hS2.1, fun q h1 _ => hS2.2.1 q h1 (fun z => z), fun _ h => absurd h List.not_mem_nil⟩
  have hX := hX.kept (fun q h1 _ => hS2.2.1 q h1 (fun z => z))
  have hO : oO E out w9 H := (hS2.2.1 out hlt (fun z => z)).trans hO
  refine vx_catch hown (tableOf []) ⟨0, 10, 13, 24⟩ (tableOf []) (htab.trans rfl) (fun z hz => absurd hz List.not_mem_nil) rfl (by decide) (hC.2.1.hts _ _ wCl_L_24) (cs_xIO hC) hce hcv hcl ?_
  refine lv_astore (lv' := [(4, .ref q9), (0, .ref (ad 0 0)), (1, .int (nI i)), (2, .int w), (3, .ref out)]) hx hb dL_shows_13 hl (by decide) rfl (fun ls hl => ?_)
  refine lv_iconstN hx hb 1 dL_shows_15 (by decide) ?_
  refine W.widen (k := 1) (n := 6) (by omega) (by omega) ?_
  exact mu_iret (x := nI 1) hx hb hr hlocks hS ⟨hO, ⟨L, ly, ad, hX, rfl, fun q h => Or.inl h⟩⟩ rfl dL_shows_16
set_option maxHeartbeats 4000000 in
set_option maxRecDepth 100000 in
theorem mL_ofHand_g (l : Launch) {E : En} {c : Cy} {ly : Ly} {L : List Nat} {ad : Nat → Nat → Nat} {H0 : Heap} (hX : PX E c ly L ad H0) {out : Nat} {w9 : Int64} (hO : oO E out w9 H0) (hoL : out ∉ L) (hob : bA E out) (h w : Nat) (hh : h < c.R 10 1) (hw : w ≤ 10) : LwI l yL_ofHand cL_ofHand 5 [(0, 10, 13, 24), (0, 10, 17, 13)] (rmk 5 0 0 112) [.ref (ad 0 0), .int (nI h), .int (nI w), .ref out] E H0 (nI 0) (oB H0.size E c L (ad 0 0) out ((ohS c h (nI w)).toInt64)) (aO L out H0) 0 0 := by
  obtain ⟨hP, hly, hLb, wf⟩ := id hX
  have hlt : out < H0.size := (Array.getElem?_eq_some_iff.mp hO).1
  refine lw_of (by decide) (Nat.le_of_ble_eq_true rfl) ?_
  intro p e s m below meth co ls hx hb hr hml hown hlocks htab hC hNc hU hl
  have hS : va_S (aO L out H0) s.heap H0 [] := by rw [hU]; exact va_S.rf
  have hA : ∀ q, q ∈ L → aO L out H0 q := fun q h => Or.inl h
  have hN : ∀ q, s.heap.size ≤ q → aO L out H0 q := fun q h => Or.inr (Or.inr (by rw [← hU]; exact h))
  have hAb : ∀ q, aO L out H0 q → bA E q := fun q h => h.elim (hLb q) (fun h => h.elim (fun h => by rw [h]; exact hob) (fun z => Nat.le_trans hC.2.2.2.1 (by rw [hU]; exact z)))
  have hl : lv_has ls 5 [(0, .ref (ad 0 0)), (1, .int (nI h)), (2, .int (nI w)), (3, .ref out)] := hl
  refine lv_aload_n hx hb dL_ofHand_0 rfl (lv_at hl 3 rfl) ?_
  refine lv_iconstN hx hb 0 dL_ofHand_1 (by decide) ?_
  refine lv_aload_n hx hb dL_ofHand_2 rfl (lv_at hl 0 rfl) ?_
  refine lv_iload_n hx hb dL_ofHand_3 rfl (lv_at hl 1 rfl) ?_
  refine lv_iload_n hx hb dL_ofHand_4 rfl (lv_at hl 2 rfl) ?_
  refine ro_V (As := [.int (nI h), .int (nI w)]) (h0 := ad 0 0) (rest := [.int (nI 0), .ref out]) (v := ohS c h (nI w)) hx hb hml hown hC hS hAb (mX3_ofHand_g l hX h w hh hw) kV_L_63 ⟨rfl, rfl⟩ ⟨Nat.le_of_ble_eq_true rfl, Nat.le_of_ble_eq_true rfl⟩ (hP.recv hC cX_0 rfl) rfl hl (Nat.le_of_ble_eq_true rfl) ⟨Nat.zero_le _, Nat.zero_le _⟩ dL_ofHand_5 ?_
  have hoL2 := hoL
  refine lv_i2l (v := (ohS c h (nI w)).toInt64) hx hb dL_ofHand_8 rfl ?_
  refine lw_last hx hb hC hO hS (Or.inr (Or.inl rfl)) dL_ofHand_9 (fun H locs hO hz1 hk1 hS => ?_)
  have hX := hX.kept (fun q _ h => hk1 q (fun z => hoL2 (by rw [← z]; exact h)))
  refine lv_goto (tgt := 21) hx hb dL_ofHand_10 (by decide) ?_
  refine lv_iconstN hx hb 0 dL_ofHand_21 (by decide) ?_
  refine W.widen (k := 0) (n := 0) (by omega) (by omega) ?_
  exact mu_iret (x := nI 0) hx hb hr hlocks hS ⟨hO, ⟨L, ly, ad, hX, rfl, fun q h => Or.inl h⟩⟩ rfl dL_ofHand_22
set_option maxHeartbeats 4000000 in
set_option maxRecDepth 100000 in
theorem mL_ofHand_b1 (l : Launch) (hst : l.stackTraces = false) {E : En} {c : Cy} {ly : Ly} {L : List Nat} {ad : Nat → Nat → Nat} {H0 : Heap} (hX : PX E c ly L ad H0) {out : Nat} {w9 : Int64} (hO : oO E out w9 H0) (hoL : out ∉ L) (hob : bA E out) (v w : Int32) (hv : isInS v (nI 0) (nI (c.R 10 1) - nI 1) = false) : LwI l yL_ofHand cL_ofHand 5 [(0, 10, 13, 24), (0, 10, 17, 13)] (rmk 8 1 6 134) [.ref (ad 0 0), .int v, .int w, .ref out] E H0 (nI 1) (oB H0.size E c L (ad 0 0) out w9) (aO L out H0) 1 6 := by
  obtain ⟨hP, hly, hLb, wf⟩ := id hX
  have hlt : out < H0.size := (Array.getElem?_eq_some_iff.mp hO).1
  refine lw_of (by decide) (Nat.le_of_ble_eq_true rfl) ?_
  intro p e s m below meth co ls hx hb hr hml hown hlocks htab hC hNc hU hl
  have hS : va_S (aO L out H0) s.heap H0 [] := by rw [hU]; exact va_S.rf
  have hA : ∀ q, q ∈ L → aO L out H0 q := fun q h => Or.inl h
  have hN : ∀ q, s.heap.size ≤ q → aO L out H0 q := fun q h => Or.inr (Or.inr (by rw [← hU]; exact h))
  have hAb : ∀ q, aO L out H0 q → bA E q := fun q h => h.elim (hLb q) (fun h => h.elim (fun h => by rw [h]; exact hob) (fun z => Nat.le_trans hC.2.2.2.1 (by rw [hU]; exact z)))
  have hl : lv_has ls 5 [(0, .ref (ad 0 0)), (1, .int v), (2, .int w), (3, .ref out)] := hl
  refine lv_aload_n hx hb dL_ofHand_0 rfl (lv_at hl 3 rfl) ?_
  refine lv_iconstN hx hb 0 dL_ofHand_1 (by decide) ?_
  refine lv_aload_n hx hb dL_ofHand_2 rfl (lv_at hl 0 rfl) ?_
  refine lv_iload_n hx hb dL_ofHand_3 rfl (lv_at hl 1 rfl) ?_
  refine lv_iload_n hx hb dL_ofHand_4 rfl (lv_at hl 2 rfl) ?_
  refine lw_throw (As := [.int v, .int w]) (h0 := ad 0 0) (rest := [.int (nI 0), .ref out]) hx hb hml hown hC hU (mX3_ofHand_b1 l hst hX v w hv) kV_L_63 ⟨Nat.le_of_ble_eq_true rfl, Nat.le_of_ble_eq_true rfl⟩ ⟨Nat.le_of_ble_eq_true rfl, Nat.le_of_ble_eq_true rfl⟩ (hP.recv hC cX_0 rfl) rfl hl (Nat.le_of_ble_eq_true rfl) dL_ofHand_5 (fun q9 ce H hS2 hce hcv hcl => ?_)
  have hS : va_S (aO L out H0) s.heap H [] := by rw [hU]; exact ⟨hS2.1, fun q h1 _ => hS2.2.1 q h1 (fun z => z), fun _ h => absurd h List.not_mem_nil⟩
  have hX := hX.kept (fun q h1 _ => hS2.2.1 q h1 (fun z => z))
  have hO : oO E out w9 H := (hS2.2.1 out hlt (fun z => z)).trans hO
  refine vx_catch hown (tableOf []) ⟨0, 10, 13, 24⟩ (tableOf [(0, 10, 17, 13)]) (htab.trans rfl) (fun z hz => absurd hz List.not_mem_nil) rfl (by decide) (hC.2.1.hts _ _ wCl_L_24) (cs_xIO hC) hce hcv hcl ?_
  refine lv_astore (lv' := [(4, .ref q9), (0, .ref (ad 0 0)), (1, .int v), (2, .int w), (3, .ref out)]) hx hb dL_ofHand_13 hl (by decide) rfl (fun ls hl => ?_)
  refine lv_iconstN hx hb 1 dL_ofHand_15 (by decide) ?_
  refine W.widen (k := 1) (n := 6) (by omega) (by omega) ?_
  exact mu_iret (x := nI 1) hx hb hr hlocks hS ⟨hO, ⟨L, ly, ad, hX, rfl, fun q h => Or.inl h⟩⟩ rfl dL_ofHand_16
set_option maxHeartbeats 4000000 in
set_option maxRecDepth 100000 in
theorem mL_ofHand_b2 (l : Launch) (hst : l.stackTraces = false) {E : En} {c : Cy} {ly : Ly} {L : List Nat} {ad : Nat → Nat → Nat} {H0 : Heap} (hX : PX E c ly L ad H0) {out : Nat} {w9 : Int64} (hO : oO E out w9 H0) (hoL : out ∉ L) (hob : bA E out) (h : Nat) (w : Int32) (hh : h < c.R 10 1) (hw : isInS w (nI 0) (nI 10) = false) : LwI l yL_ofHand cL_ofHand 5 [(0, 10, 13, 24), (0, 10, 17, 13)] (rmk 7 1 6 113) [.ref (ad 0 0), .int (nI h), .int w, .ref out] E H0 (nI 2) (oB H0.size E c L (ad 0 0) out w9) (aO L out H0) 1 6 := by
  obtain ⟨hP, hly, hLb, wf⟩ := id hX
  have hlt : out < H0.size := (Array.getElem?_eq_some_iff.mp hO).1
  refine lw_of (by decide) (Nat.le_of_ble_eq_true rfl) ?_
  intro p e s m below meth co ls hx hb hr hml hown hlocks htab hC hNc hU hl
  have hS : va_S (aO L out H0) s.heap H0 [] := by rw [hU]; exact va_S.rf
  have hA : ∀ q, q ∈ L → aO L out H0 q := fun q h => Or.inl h
  have hN : ∀ q, s.heap.size ≤ q → aO L out H0 q := fun q h => Or.inr (Or.inr (by rw [← hU]; exact h))
  have hAb : ∀ q, aO L out H0 q → bA E q := fun q h => h.elim (hLb q) (fun h => h.elim (fun h => by rw [h]; exact hob) (fun z => Nat.le_trans hC.2.2.2.1 (by rw [hU]; exact z)))
  have hl : lv_has ls 5 [(0, .ref (ad 0 0)), (1, .int (nI h)), (2, .int w), (3, .ref out)] := hl
  refine lv_aload_n hx hb dL_ofHand_0 rfl (lv_at hl 3 rfl) ?_
  refine lv_iconstN hx hb 0 dL_ofHand_1 (by decide) ?_
  refine lv_aload_n hx hb dL_ofHand_2 rfl (lv_at hl 0 rfl) ?_
  refine lv_iload_n hx hb dL_ofHand_3 rfl (lv_at hl 1 rfl) ?_
  refine lv_iload_n hx hb dL_ofHand_4 rfl (lv_at hl 2 rfl) ?_
  refine lw_throw (As := [.int (nI h), .int w]) (h0 := ad 0 0) (rest := [.int (nI 0), .ref out]) hx hb hml hown hC hU (mX3_ofHand_b2 l hst hX h w hh hw) kV_L_63 ⟨Nat.le_of_ble_eq_true rfl, Nat.le_of_ble_eq_true rfl⟩ ⟨Nat.le_of_ble_eq_true rfl, Nat.le_of_ble_eq_true rfl⟩ (hP.recv hC cX_0 rfl) rfl hl (Nat.le_of_ble_eq_true rfl) dL_ofHand_5 (fun q9 ce H hS2 hce hcv hcl => ?_)
  have hS : va_S (aO L out H0) s.heap H [] := by rw [hU]; exact ⟨hS2.1, fun q h1 _ => hS2.2.1 q h1 (fun z => z), fun _ h => absurd h List.not_mem_nil⟩
  have hX := hX.kept (fun q h1 _ => hS2.2.1 q h1 (fun z => z))
  have hO : oO E out w9 H := (hS2.2.1 out hlt (fun z => z)).trans hO
  refine vx_catch hown (tableOf [(0, 10, 13, 24)]) ⟨0, 10, 17, 13⟩ (tableOf []) (htab.trans rfl) (fun z hz => by rw [List.mem_singleton.mp hz]; exact Or.inr ⟨by decide, xIO, hC.2.1.hts _ _ wCl_L_24, hNc.1⟩) rfl (by decide) (hC.2.1.hts _ _ wCl_L_13) (cs_xIA hC) hce hcv hcl ?_
  refine lv_astore (lv' := [(4, .ref q9), (0, .ref (ad 0 0)), (1, .int (nI h)), (2, .int w), (3, .ref out)]) hx hb dL_ofHand_17 hl (by decide) rfl (fun ls hl => ?_)
  refine lv_iconstN hx hb 2 dL_ofHand_19 (by decide) ?_
  refine W.widen (k := 1) (n := 6) (by omega) (by omega) ?_
  exact mu_iret (x := nI 2) hx hb hr hlocks hS ⟨hO, ⟨L, ly, ad, hX, rfl, fun q h => Or.inl h⟩⟩ rfl dL_ofHand_20
set_option maxHeartbeats 4000000 in
set_option maxRecDepth 100000 in
theorem mL_ofLayer_g (l : Launch) {E : En} {c : Cy} {ly : Ly} {L : List Nat} {ad : Nat → Nat → Nat} {H0 : Heap} (hX : PX E c ly L ad H0) {out : Nat} {w9 : Int64} (hO : oO E out w9 H0) (hoL : out ∉ L) (hob : bA E out) (j w : Nat) (hj : j < c.R 10 2) (hw : w ≤ 13) : LwI l yL_ofLayer cL_ofLayer 5 [(0, 10, 13, 24), (0, 10, 17, 13)] (rmk 6 0 0 133) [.ref (ad 0 0), .int (nI j), .int (nI w), .ref out] E H0 (nI 0) (oB H0.size E c L (ad 0 0) out ((olS c j (nI w)).toInt64)) (aO L out H0) 0 0 := by
  obtain ⟨hP, hly, hLb, wf⟩ := id hX
  have hlt : out < H0.size := (Array.getElem?_eq_some_iff.mp hO).1
  refine lw_of (by decide) (Nat.le_of_ble_eq_true rfl) ?_
  intro p e s m below meth co ls hx hb hr hml hown hlocks htab hC hNc hU hl
  have hS : va_S (aO L out H0) s.heap H0 [] := by rw [hU]; exact va_S.rf
  have hA : ∀ q, q ∈ L → aO L out H0 q := fun q h => Or.inl h
  have hN : ∀ q, s.heap.size ≤ q → aO L out H0 q := fun q h => Or.inr (Or.inr (by rw [← hU]; exact h))
  have hAb : ∀ q, aO L out H0 q → bA E q := fun q h => h.elim (hLb q) (fun h => h.elim (fun h => by rw [h]; exact hob) (fun z => Nat.le_trans hC.2.2.2.1 (by rw [hU]; exact z)))
  have hl : lv_has ls 5 [(0, .ref (ad 0 0)), (1, .int (nI j)), (2, .int (nI w)), (3, .ref out)] := hl
  refine lv_aload_n hx hb dL_ofLayer_0 rfl (lv_at hl 3 rfl) ?_
  refine lv_iconstN hx hb 0 dL_ofLayer_1 (by decide) ?_
  refine lv_aload_n hx hb dL_ofLayer_2 rfl (lv_at hl 0 rfl) ?_
  refine lv_iload_n hx hb dL_ofLayer_3 rfl (lv_at hl 1 rfl) ?_
  refine lv_iload_n hx hb dL_ofLayer_4 rfl (lv_at hl 2 rfl) ?_
  refine ro_V (As := [.int (nI j), .int (nI w)]) (h0 := ad 0 0) (rest := [.int (nI 0), .ref out]) (v := olS c j (nI w)) hx hb hml hown hC hS hAb (mX3_ofLayer_g l hX j w hj hw) kV_L_66 ⟨rfl, rfl⟩ ⟨Nat.le_of_ble_eq_true rfl, Nat.le_of_ble_eq_true rfl⟩ (hP.recv hC cX_0 rfl) rfl hl (Nat.le_of_ble_eq_true rfl) ⟨Nat.zero_le _, Nat.zero_le _⟩ dL_ofLayer_5 ?_
  have hoL2 := hoL
  refine lv_i2l (v := (olS c j (nI w)).toInt64) hx hb dL_ofLayer_8 rfl ?_
  refine lw_last hx hb hC hO hS (Or.inr (Or.inl rfl)) dL_ofLayer_9 (fun H locs hO hz1 hk1 hS => ?_)
  have hX := hX.kept (fun q _ h => hk1 q (fun z => hoL2 (by rw [← z]; exact h)))
  refine lv_goto (tgt := 21) hx hb dL_ofLayer_10 (by decide) ?_
  refine lv_iconstN hx hb 0 dL_ofLayer_21 (by decide) ?_
  refine W.widen (k := 0) (n := 0) (by omega) (by omega) ?_
  exact mu_iret (x := nI 0) hx hb hr hlocks hS ⟨hO, ⟨L, ly, ad, hX, rfl, fun q h => Or.inl h⟩⟩ rfl dL_ofLayer_22
set_option maxHeartbeats 4000000 in
set_option maxRecDepth 100000 in
theorem mL_ofLayer_b1 (l : Launch) (hst : l.stackTraces = false) {E : En} {c : Cy} {ly : Ly} {L : List Nat} {ad : Nat → Nat → Nat} {H0 : Heap} (hX : PX E c ly L ad H0) {out : Nat} {w9 : Int64} (hO : oO E out w9 H0) (hoL : out ∉ L) (hob : bA E out) (v w : Int32) (hv : isInS v (nI 0) (nI (c.R 10 2) - nI 1) = false) : LwI l yL_ofLayer cL_ofLayer 5 [(0, 10, 13, 24), (0, 10, 17, 13)] (rmk 8 1 6 134) [.ref (ad 0 0), .int v, .int w, .ref out] E H0 (nI 1) (oB H0.size E c L (ad 0 0) out w9) (aO L out H0) 1 6 := by
  obtain ⟨hP, hly, hLb, wf⟩ := id hX
  have hlt : out < H0.size := (Array.getElem?_eq_some_iff.mp hO).1
  refine lw_of (by decide) (Nat.le_of_ble_eq_true rfl) ?_
  intro p e s m below meth co ls hx hb hr hml hown hlocks htab hC hNc hU hl
  have hS : va_S (aO L out H0) s.heap H0 [] := by rw [hU]; exact va_S.rf
  have hA : ∀ q, q ∈ L → aO L out H0 q := fun q h => Or.inl h
  have hN : ∀ q, s.heap.size ≤ q → aO L out H0 q := fun q h => Or.inr (Or.inr (by rw [← hU]; exact h))
  have hAb : ∀ q, aO L out H0 q → bA E q := fun q h => h.elim (hLb q) (fun h => h.elim (fun h => by rw [h]; exact hob) (fun z => Nat.le_trans hC.2.2.2.1 (by rw [hU]; exact z)))
  have hl : lv_has ls 5 [(0, .ref (ad 0 0)), (1, .int v), (2, .int w), (3, .ref out)] := hl
  refine lv_aload_n hx hb dL_ofLayer_0 rfl (lv_at hl 3 rfl) ?_
  refine lv_iconstN hx hb 0 dL_ofLayer_1 (by decide) ?_
  refine lv_aload_n hx hb dL_ofLayer_2 rfl (lv_at hl 0 rfl) ?_
  refine lv_iload_n hx hb dL_ofLayer_3 rfl (lv_at hl 1 rfl) ?_
  refine lv_iload_n hx hb dL_ofLayer_4 rfl (lv_at hl 2 rfl) ?_
  refine lw_throw (As := [.int v, .int w]) (h0 := ad 0 0) (rest := [.int (nI 0), .ref out]) hx hb hml hown hC hU (mX3_ofLayer_b1 l hst hX v w hv) kV_L_66 ⟨Nat.le_of_ble_eq_true rfl, Nat.le_of_ble_eq_true rfl⟩ ⟨Nat.le_of_ble_eq_true rfl, Nat.le_of_ble_eq_true rfl⟩ (hP.recv hC cX_0 rfl) rfl hl (Nat.le_of_ble_eq_true rfl) dL_ofLayer_5 (fun q9 ce H hS2 hce hcv hcl => ?_)
  have hS : va_S (aO L out H0) s.heap H [] := by rw [hU]; exact ⟨hS2.1, fun q h1 _ => hS2.2.1 q h1 (fun z => z), fun _ h => absurd h List.not_mem_nil⟩
  have hX := hX.kept (fun q h1 _ => hS2.2.1 q h1 (fun z => z))
  have hO : oO E out w9 H := (hS2.2.1 out hlt (fun z => z)).trans hO
  refine vx_catch hown (tableOf []) ⟨0, 10, 13, 24⟩ (tableOf [(0, 10, 17, 13)]) (htab.trans rfl) (fun z hz => absurd hz List.not_mem_nil) rfl (by decide) (hC.2.1.hts _ _ wCl_L_24) (cs_xIO hC) hce hcv hcl ?_
  refine lv_astore (lv' := [(4, .ref q9), (0, .ref (ad 0 0)), (1, .int v), (2, .int w), (3, .ref out)]) hx hb dL_ofLayer_13 hl (by decide) rfl (fun ls hl => ?_)
  refine lv_iconstN hx hb 1 dL_ofLayer_15 (by decide) ?_
  refine W.widen (k := 1) (n := 6) (by omega) (by omega) ?_
  exact mu_iret (x := nI 1) hx hb hr hlocks hS ⟨hO, ⟨L, ly, ad, hX, rfl, fun q h => Or.inl h⟩⟩ rfl dL_ofLayer_16
set_option maxHeartbeats 4000000 in
set_option maxRecDepth 100000 in
theorem mL_ofLayer_b2 (l : Launch) (hst : l.stackTraces = false) {E : En} {c : Cy} {ly : Ly} {L : List Nat} {ad : Nat → Nat → Nat} {H0 : Heap} (hX : PX E c ly L ad H0) {out : Nat} {w9 : Int64} (hO : oO E out w9 H0) (hoL : out ∉ L) (hob : bA E out) (j : Nat) (w : Int32) (hj : j < c.R 10 2) (hw : isInS w (nI 0) (nI 13) = false) : LwI l yL_ofLayer cL_ofLayer 5 [(0, 10, 13, 24), (0, 10, 17, 13)] (rmk 7 1 6 113) [.ref (ad 0 0), .int (nI j), .int w, .ref out] E H0 (nI 2) (oB H0.size E c L (ad 0 0) out w9) (aO L out H0) 1 6 := by
  obtain ⟨hP, hly, hLb, wf⟩ := id hX
  have hlt : out < H0.size := (Array.getElem?_eq_some_iff.mp hO).1
  refine lw_of (by decide) (Nat.le_of_ble_eq_true rfl) ?_
  intro p e s m below meth co ls hx hb hr hml hown hlocks htab hC hNc hU hl
  have hS : va_S (aO L out H0) s.heap H0 [] := by rw [hU]; exact va_S.rf
  have hA : ∀ q, q ∈ L → aO L out H0 q := fun q h => Or.inl h
  have hN : ∀ q, s.heap.size ≤ q → aO L out H0 q := fun q h => Or.inr (Or.inr (by rw [← hU]; exact h))
  have hAb : ∀ q, aO L out H0 q → bA E q := fun q h => h.elim (hLb q) (fun h => h.elim (fun h => by rw [h]; exact hob) (fun z => Nat.le_trans hC.2.2.2.1 (by rw [hU]; exact z)))
  have hl : lv_has ls 5 [(0, .ref (ad 0 0)), (1, .int (nI j)), (2, .int w), (3, .ref out)] := hl
  refine lv_aload_n hx hb dL_ofLayer_0 rfl (lv_at hl 3 rfl) ?_
  refine lv_iconstN hx hb 0 dL_ofLayer_1 (by decide) ?_
  refine lv_aload_n hx hb dL_ofLayer_2 rfl (lv_at hl 0 rfl) ?_
  refine lv_iload_n hx hb dL_ofLayer_3 rfl (lv_at hl 1 rfl) ?_
  refine lv_iload_n hx hb dL_ofLayer_4 rfl (lv_at hl 2 rfl) ?_
  refine lw_throw (As := [.int (nI j), .int w]) (h0 := ad 0 0) (rest := [.int (nI 0), .ref out]) hx hb hml hown hC hU (mX3_ofLayer_b2 l hst hX j w hj hw) kV_L_66 ⟨Nat.le_of_ble_eq_true rfl, Nat.le_of_ble_eq_true rfl⟩ ⟨Nat.le_of_ble_eq_true rfl, Nat.le_of_ble_eq_true rfl⟩ (hP.recv hC cX_0 rfl) rfl hl (Nat.le_of_ble_eq_true rfl) dL_ofLayer_5 (fun q9 ce H hS2 hce hcv hcl => ?_)
  have hS : va_S (aO L out H0) s.heap H [] := by rw [hU]; exact ⟨hS2.1, fun q h1 _ => hS2.2.1 q h1 (fun z => z), fun _ h => absurd h List.not_mem_nil⟩
  have hX := hX.kept (fun q h1 _ => hS2.2.1 q h1 (fun z => z))
  have hO : oO E out w9 H := (hS2.2.1 out hlt (fun z => z)).trans hO
  refine vx_catch hown (tableOf [(0, 10, 13, 24)]) ⟨0, 10, 17, 13⟩ (tableOf []) (htab.trans rfl) (fun z hz => by rw [List.mem_singleton.mp hz]; exact Or.inr ⟨by decide, xIO, hC.2.1.hts _ _ wCl_L_24, hNc.1⟩) rfl (by decide) (hC.2.1.hts _ _ wCl_L_13) (cs_xIA hC) hce hcv hcl ?_
  refine lv_astore (lv' := [(4, .ref q9), (0, .ref (ad 0 0)), (1, .int (nI j)), (2, .int w), (3, .ref out)]) hx hb dL_ofLayer_17 hl (by decide) rfl (fun ls hl => ?_)
  refine lv_iconstN hx hb 2 dL_ofLayer_19 (by decide) ?_
  refine W.widen (k := 1) (n := 6) (by omega) (by omega) ?_
  exact mu_iret (x := nI 2) hx hb hr hlocks hS ⟨hO, ⟨L, ly, ad, hX, rfl, fun q h => Or.inl h⟩⟩ rfl dL_ofLayer_20
set_option maxHeartbeats 4000000 in
set_option maxRecDepth 100000 in
theorem mL_wrongs_g (l : Launch) {E : En} {c : Cy} {ly : Ly} {L : List Nat} {ad : Nat → Nat → Nat} {H0 : Heap} (hX : PX E c ly L ad H0) {out : Nat} {w9 : Int64} (hO : oO E out w9 H0) (hoL : out ∉ L) (hob : bA E out) (h g : Nat) (hh : h < c.R 10 1) (hg : g < c.R 10 1) : LwI l yL_wrongs cL_wrongs 5 [(0, 10, 13, 24)] (rmk 5 0 0 109) [.ref (ad 0 0), .int (nI h), .int (nI g), .ref out] E H0 (nI 0) (oB H0.size E c L (ad 0 0) out ((c.Wr h g).toInt64)) (aO L out H0) 0 0 := by
  obtain ⟨hP, hly, hLb, wf⟩ := id hX
  have hlt : out < H0.size := (Array.getElem?_eq_some_iff.mp hO).1
  refine lw_of (by decide) (Nat.le_of_ble_eq_true rfl) ?_
  intro p e s m below meth co ls hx hb hr hml hown hlocks htab hC hNc hU hl
  have hS : va_S (aO L out H0) s.heap H0 [] := by rw [hU]; exact va_S.rf
  have hA : ∀ q, q ∈ L → aO L out H0 q := fun q h => Or.inl h
  have hN : ∀ q, s.heap.size ≤ q → aO L out H0 q := fun q h => Or.inr (Or.inr (by rw [← hU]; exact h))
  have hAb : ∀ q, aO L out H0 q → bA E q := fun q h => h.elim (hLb q) (fun h => h.elim (fun h => by rw [h]; exact hob) (fun z => Nat.le_trans hC.2.2.2.1 (by rw [hU]; exact z)))
  have hl : lv_has ls 5 [(0, .ref (ad 0 0)), (1, .int (nI h)), (2, .int (nI g)), (3, .ref out)] := hl
  refine lv_aload_n hx hb dL_wrongs_0 rfl (lv_at hl 3 rfl) ?_
  refine lv_iconstN hx hb 0 dL_wrongs_1 (by decide) ?_
  refine lv_aload_n hx hb dL_wrongs_2 rfl (lv_at hl 0 rfl) ?_
  refine lv_iload_n hx hb dL_wrongs_3 rfl (lv_at hl 1 rfl) ?_
  refine lv_iload_n hx hb dL_wrongs_4 rfl (lv_at hl 2 rfl) ?_
  refine ro_V (As := [.int (nI h), .int (nI g)]) (h0 := ad 0 0) (rest := [.int (nI 0), .ref out]) (v := c.Wr h g) hx hb hml hown hC hS hAb (mX3_wrongs_g l hX h g hh hg) kV_L_69 ⟨rfl, rfl⟩ ⟨Nat.le_of_ble_eq_true rfl, Nat.le_of_ble_eq_true rfl⟩ (hP.recv hC cX_0 rfl) rfl hl (Nat.le_of_ble_eq_true rfl) ⟨Nat.zero_le _, Nat.zero_le _⟩ dL_wrongs_5 ?_
  have hoL2 := hoL
  refine lv_i2l (v := (c.Wr h g).toInt64) hx hb dL_wrongs_8 rfl ?_
  refine lw_last hx hb hC hO hS (Or.inr (Or.inl rfl)) dL_wrongs_9 (fun H locs hO hz1 hk1 hS => ?_)
  have hX := hX.kept (fun q _ h => hk1 q (fun z => hoL2 (by rw [← z]; exact h)))
  refine lv_goto (tgt := 17) hx hb dL_wrongs_10 (by decide) ?_
  refine lv_iconstN hx hb 0 dL_wrongs_17 (by decide) ?_
  refine W.widen (k := 0) (n := 0) (by omega) (by omega) ?_
  exact mu_iret (x := nI 0) hx hb hr hlocks hS ⟨hO, ⟨L, ly, ad, hX, rfl, fun q h => Or.inl h⟩⟩ rfl dL_wrongs_18
set_option maxHeartbeats 4000000 in
set_option maxRecDepth 100000 in
theorem mL_wrongs_b1 (l : Launch) (hst : l.stackTraces = false) {E : En} {c : Cy} {ly : Ly} {L : List Nat} {ad : Nat → Nat → Nat} {H0 : Heap} (hX : PX E c ly L ad H0) {out : Nat} {w9 : Int64} (hO : oO E out w9 H0) (hoL : out ∉ L) (hob : bA E out) (v w : Int32) (hv : isInS v (nI 0) (nI (c.R 10 1) - nI 1) = false) : LwI l yL_wrongs cL_wrongs 5 [(0, 10, 13, 24)] (rmk 8 1 6 135) [.ref (ad 0 0), .int v, .int w, .ref out] E H0 (nI 1) (oB H0.size E c L (ad 0 0) out w9) (aO L out H0) 1 6 := by
  obtain ⟨hP, hly, hLb, wf⟩ := id hX
  have hlt : out < H0.size := (Array.getElem?_eq_some_iff.mp hO).1
  refine lw_of (by decide) (Nat.le_of_ble_eq_true rfl) ?_
  intro p e s m below meth co ls hx hb hr hml hown hlocks htab hC hNc hU hl
  have hS : va_S (aO L out H0) s.heap H0 [] := by rw [hU]; exact va_S.rf
  have hA : ∀ q, q ∈ L → aO L out H0 q := fun q h => Or.inl h
  have hN : ∀ q, s.heap.size ≤ q → aO L out H0 q := fun q h => Or.inr (Or.inr (by rw [← hU]; exact h))
  have hAb : ∀ q, aO L out H0 q → bA E q := fun q h => h.elim (hLb q) (fun h => h.elim (fun h => by rw [h]; exact hob) (fun z => Nat.le_trans hC.2.2.2.1 (by rw [hU]; exact z)))
  have hl : lv_has ls 5 [(0, .ref (ad 0 0)), (1, .int v), (2, .int w), (3, .ref out)] := hl
  refine lv_aload_n hx hb dL_wrongs_0 rfl (lv_at hl 3 rfl) ?_
  refine lv_iconstN hx hb 0 dL_wrongs_1 (by decide) ?_
  refine lv_aload_n hx hb dL_wrongs_2 rfl (lv_at hl 0 rfl) ?_
  refine lv_iload_n hx hb dL_wrongs_3 rfl (lv_at hl 1 rfl) ?_
  refine lv_iload_n hx hb dL_wrongs_4 rfl (lv_at hl 2 rfl) ?_
  refine lw_throw (As := [.int v, .int w]) (h0 := ad 0 0) (rest := [.int (nI 0), .ref out]) hx hb hml hown hC hU (mX3_wrongs_b1 l hst hX v w hv) kV_L_69 ⟨Nat.le_of_ble_eq_true rfl, Nat.le_of_ble_eq_true rfl⟩ ⟨Nat.le_of_ble_eq_true rfl, Nat.le_of_ble_eq_true rfl⟩ (hP.recv hC cX_0 rfl) rfl hl (Nat.le_of_ble_eq_true rfl) dL_wrongs_5 (fun q9 ce H hS2 hce hcv hcl => ?_)
  have hS : va_S (aO L out H0) s.heap H [] := by rw [hU]; exact ⟨hS2.1, fun q h1 _ => hS2.2.1 q h1 (fun z => z), fun _ h => absurd h List.not_mem_nil⟩
  have hX := hX.kept (fun q h1 _ => hS2.2.1 q h1 (fun z => z))
  have hO : oO E out w9 H := (hS2.2.1 out hlt (fun z => z)).trans hO
  refine vx_catch hown (tableOf []) ⟨0, 10, 13, 24⟩ (tableOf []) (htab.trans rfl) (fun z hz => absurd hz List.not_mem_nil) rfl (by decide) (hC.2.1.hts _ _ wCl_L_24) (cs_xIO hC) hce hcv hcl ?_
  refine lv_astore (lv' := [(4, .ref q9), (0, .ref (ad 0 0)), (1, .int v), (2, .int w), (3, .ref out)]) hx hb dL_wrongs_13 hl (by decide) rfl (fun ls hl => ?_)
  refine lv_iconstN hx hb 1 dL_wrongs_15 (by decide) ?_
  refine W.widen (k := 1) (n := 6) (by omega) (by omega) ?_
  exact mu_iret (x := nI 1) hx hb hr hlocks hS ⟨hO, ⟨L, ly, ad, hX, rfl, fun q h => Or.inl h⟩⟩ rfl dL_wrongs_16
set_option maxHeartbeats 4000000 in
set_option maxRecDepth 100000 in
theorem mL_wrongs_b2 (l : Launch) (hst : l.stackTraces = false) {E : En} {c : Cy} {ly : Ly} {L : List Nat} {ad : Nat → Nat → Nat} {H0 : Heap} (hX : PX E c ly L ad H0) {out : Nat} {w9 : Int64} (hO : oO E out w9 H0) (hoL : out ∉ L) (hob : bA E out) (h : Nat) (v : Int32) (hh : h < c.R 10 1) (hv : isInS v (nI 0) (nI (c.R 10 1) - nI 1) = false) : LwI l yL_wrongs cL_wrongs 5 [(0, 10, 13, 24)] (rmk 8 1 6 135) [.ref (ad 0 0), .int (nI h), .int v, .ref out] E H0 (nI 1) (oB H0.size E c L (ad 0 0) out w9) (aO L out H0) 1 6 := by
  obtain ⟨hP, hly, hLb, wf⟩ := id hX
  have hlt : out < H0.size := (Array.getElem?_eq_some_iff.mp hO).1
  refine lw_of (by decide) (Nat.le_of_ble_eq_true rfl) ?_
  intro p e s m below meth co ls hx hb hr hml hown hlocks htab hC hNc hU hl
  have hS : va_S (aO L out H0) s.heap H0 [] := by rw [hU]; exact va_S.rf
  have hA : ∀ q, q ∈ L → aO L out H0 q := fun q h => Or.inl h
  have hN : ∀ q, s.heap.size ≤ q → aO L out H0 q := fun q h => Or.inr (Or.inr (by rw [← hU]; exact h))
  have hAb : ∀ q, aO L out H0 q → bA E q := fun q h => h.elim (hLb q) (fun h => h.elim (fun h => by rw [h]; exact hob) (fun z => Nat.le_trans hC.2.2.2.1 (by rw [hU]; exact z)))
  have hl : lv_has ls 5 [(0, .ref (ad 0 0)), (1, .int (nI h)), (2, .int v), (3, .ref out)] := hl
  refine lv_aload_n hx hb dL_wrongs_0 rfl (lv_at hl 3 rfl) ?_
  refine lv_iconstN hx hb 0 dL_wrongs_1 (by decide) ?_
  refine lv_aload_n hx hb dL_wrongs_2 rfl (lv_at hl 0 rfl) ?_
  refine lv_iload_n hx hb dL_wrongs_3 rfl (lv_at hl 1 rfl) ?_
  refine lv_iload_n hx hb dL_wrongs_4 rfl (lv_at hl 2 rfl) ?_
  refine lw_throw (As := [.int (nI h), .int v]) (h0 := ad 0 0) (rest := [.int (nI 0), .ref out]) hx hb hml hown hC hU (mX3_wrongs_b2 l hst hX h v hh hv) kV_L_69 ⟨Nat.le_of_ble_eq_true rfl, Nat.le_of_ble_eq_true rfl⟩ ⟨Nat.le_of_ble_eq_true rfl, Nat.le_of_ble_eq_true rfl⟩ (hP.recv hC cX_0 rfl) rfl hl (Nat.le_of_ble_eq_true rfl) dL_wrongs_5 (fun q9 ce H hS2 hce hcv hcl => ?_)
  have hS : va_S (aO L out H0) s.heap H [] := by rw [hU]; exact ⟨hS2.1, fun q h1 _ => hS2.2.1 q h1 (fun z => z), fun _ h => absurd h List.not_mem_nil⟩
  have hX := hX.kept (fun q h1 _ => hS2.2.1 q h1 (fun z => z))
  have hO : oO E out w9 H := (hS2.2.1 out hlt (fun z => z)).trans hO
  refine vx_catch hown (tableOf []) ⟨0, 10, 13, 24⟩ (tableOf []) (htab.trans rfl) (fun z hz => absurd hz List.not_mem_nil) rfl (by decide) (hC.2.1.hts _ _ wCl_L_24) (cs_xIO hC) hce hcv hcl ?_
  refine lv_astore (lv' := [(4, .ref q9), (0, .ref (ad 0 0)), (1, .int (nI h)), (2, .int v), (3, .ref out)]) hx hb dL_wrongs_13 hl (by decide) rfl (fun ls hl => ?_)
  refine lv_iconstN hx hb 1 dL_wrongs_15 (by decide) ?_
  refine W.widen (k := 1) (n := 6) (by omega) (by omega) ?_
  exact mu_iret (x := nI 1) hx hb hr hlocks hS ⟨hO, ⟨L, ly, ad, hX, rfl, fun q h => Or.inl h⟩⟩ rfl dL_wrongs_16
set_option maxHeartbeats 4000000 in
set_option maxRecDepth 100000 in
theorem mL_likeness_g (l : Launch) {E : En} {c : Cy} {ly : Ly} {L : List Nat} {ad : Nat → Nat → Nat} {H0 : Heap} (hX : PX E c ly L ad H0) {out : Nat} {w9 : Int64} (hO : oO E out w9 H0) (hoL : out ∉ L) (hob : bA E out) (j k : Nat) (hj : j < c.R 10 2) (hk : k < c.R 10 2) : LwI l yL_likeness cL_likeness 5 [(0, 10, 13, 24)] (rmk 5 0 0 109) [.ref (ad 0 0), .int (nI j), .int (nI k), .ref out] E H0 (nI 0) (oB H0.size E c L (ad 0 0) out ((lkS c j k).toInt64)) (aO L out H0) 0 0 := by
  obtain ⟨hP, hly, hLb, wf⟩ := id hX
  have hlt : out < H0.size := (Array.getElem?_eq_some_iff.mp hO).1
  refine lw_of (by decide) (Nat.le_of_ble_eq_true rfl) ?_
  intro p e s m below meth co ls hx hb hr hml hown hlocks htab hC hNc hU hl
  have hS : va_S (aO L out H0) s.heap H0 [] := by rw [hU]; exact va_S.rf
  have hA : ∀ q, q ∈ L → aO L out H0 q := fun q h => Or.inl h
  have hN : ∀ q, s.heap.size ≤ q → aO L out H0 q := fun q h => Or.inr (Or.inr (by rw [← hU]; exact h))
  have hAb : ∀ q, aO L out H0 q → bA E q := fun q h => h.elim (hLb q) (fun h => h.elim (fun h => by rw [h]; exact hob) (fun z => Nat.le_trans hC.2.2.2.1 (by rw [hU]; exact z)))
  have hl : lv_has ls 5 [(0, .ref (ad 0 0)), (1, .int (nI j)), (2, .int (nI k)), (3, .ref out)] := hl
  refine lv_aload_n hx hb dL_likeness_0 rfl (lv_at hl 3 rfl) ?_
  refine lv_iconstN hx hb 0 dL_likeness_1 (by decide) ?_
  refine lv_aload_n hx hb dL_likeness_2 rfl (lv_at hl 0 rfl) ?_
  refine lv_iload_n hx hb dL_likeness_3 rfl (lv_at hl 1 rfl) ?_
  refine lv_iload_n hx hb dL_likeness_4 rfl (lv_at hl 2 rfl) ?_
  refine ro_V (As := [.int (nI j), .int (nI k)]) (h0 := ad 0 0) (rest := [.int (nI 0), .ref out]) (v := lkS c j k) hx hb hml hown hC hS hAb (mX3_likeness_g l hX j k hj hk) kV_L_72 ⟨rfl, rfl⟩ ⟨Nat.le_of_ble_eq_true rfl, Nat.le_of_ble_eq_true rfl⟩ (hP.recv hC cX_0 rfl) rfl hl (Nat.le_of_ble_eq_true rfl) ⟨Nat.zero_le _, Nat.zero_le _⟩ dL_likeness_5 ?_
  have hoL2 := hoL
  refine lv_i2l (v := (lkS c j k).toInt64) hx hb dL_likeness_8 rfl ?_
  refine lw_last hx hb hC hO hS (Or.inr (Or.inl rfl)) dL_likeness_9 (fun H locs hO hz1 hk1 hS => ?_)
  have hX := hX.kept (fun q _ h => hk1 q (fun z => hoL2 (by rw [← z]; exact h)))
  refine lv_goto (tgt := 17) hx hb dL_likeness_10 (by decide) ?_
  refine lv_iconstN hx hb 0 dL_likeness_17 (by decide) ?_
  refine W.widen (k := 0) (n := 0) (by omega) (by omega) ?_
  exact mu_iret (x := nI 0) hx hb hr hlocks hS ⟨hO, ⟨L, ly, ad, hX, rfl, fun q h => Or.inl h⟩⟩ rfl dL_likeness_18
set_option maxHeartbeats 4000000 in
set_option maxRecDepth 100000 in
theorem mL_likeness_b1 (l : Launch) (hst : l.stackTraces = false) {E : En} {c : Cy} {ly : Ly} {L : List Nat} {ad : Nat → Nat → Nat} {H0 : Heap} (hX : PX E c ly L ad H0) {out : Nat} {w9 : Int64} (hO : oO E out w9 H0) (hoL : out ∉ L) (hob : bA E out) (v w : Int32) (hv : isInS v (nI 0) (nI (c.R 10 2) - nI 1) = false) : LwI l yL_likeness cL_likeness 5 [(0, 10, 13, 24)] (rmk 8 1 6 135) [.ref (ad 0 0), .int v, .int w, .ref out] E H0 (nI 1) (oB H0.size E c L (ad 0 0) out w9) (aO L out H0) 1 6 := by
  obtain ⟨hP, hly, hLb, wf⟩ := id hX
  have hlt : out < H0.size := (Array.getElem?_eq_some_iff.mp hO).1
  refine lw_of (by decide) (Nat.le_of_ble_eq_true rfl) ?_
  intro p e s m below meth co ls hx hb hr hml hown hlocks htab hC hNc hU hl
  have hS : va_S (aO L out H0) s.heap H0 [] := by rw [hU]; exact va_S.rf
  have hA : ∀ q, q ∈ L → aO L out H0 q := fun q h => Or.inl h
  have hN : ∀ q, s.heap.size ≤ q → aO L out H0 q := fun q h => Or.inr (Or.inr (by rw [← hU]; exact h))
  have hAb : ∀ q, aO L out H0 q → bA E q := fun q h => h.elim (hLb q) (fun h => h.elim (fun h => by rw [h]; exact hob) (fun z => Nat.le_trans hC.2.2.2.1 (by rw [hU]; exact z)))
  have hl : lv_has ls 5 [(0, .ref (ad 0 0)), (1, .int v), (2, .int w), (3, .ref out)] := hl
  refine lv_aload_n hx hb dL_likeness_0 rfl (lv_at hl 3 rfl) ?_
  refine lv_iconstN hx hb 0 dL_likeness_1 (by decide) ?_
  refine lv_aload_n hx hb dL_likeness_2 rfl (lv_at hl 0 rfl) ?_
  refine lv_iload_n hx hb dL_likeness_3 rfl (lv_at hl 1 rfl) ?_
  refine lv_iload_n hx hb dL_likeness_4 rfl (lv_at hl 2 rfl) ?_
  refine lw_throw (As := [.int v, .int w]) (h0 := ad 0 0) (rest := [.int (nI 0), .ref out]) hx hb hml hown hC hU (mX3_likeness_b1 l hst hX v w hv) kV_L_72 ⟨Nat.le_of_ble_eq_true rfl, Nat.le_of_ble_eq_true rfl⟩ ⟨Nat.le_of_ble_eq_true rfl, Nat.le_of_ble_eq_true rfl⟩ (hP.recv hC cX_0 rfl) rfl hl (Nat.le_of_ble_eq_true rfl) dL_likeness_5 (fun q9 ce H hS2 hce hcv hcl => ?_)
  have hS : va_S (aO L out H0) s.heap H [] := by rw [hU]; exact ⟨hS2.1, fun q h1 _ => hS2.2.1 q h1 (fun z => z), fun _ h => absurd h List.not_mem_nil⟩
  have hX := hX.kept (fun q h1 _ => hS2.2.1 q h1 (fun z => z))
  have hO : oO E out w9 H := (hS2.2.1 out hlt (fun z => z)).trans hO
  refine vx_catch hown (tableOf []) ⟨0, 10, 13, 24⟩ (tableOf []) (htab.trans rfl) (fun z hz => absurd hz List.not_mem_nil) rfl (by decide) (hC.2.1.hts _ _ wCl_L_24) (cs_xIO hC) hce hcv hcl ?_
  refine lv_astore (lv' := [(4, .ref q9), (0, .ref (ad 0 0)), (1, .int v), (2, .int w), (3, .ref out)]) hx hb dL_likeness_13 hl (by decide) rfl (fun ls hl => ?_)
  refine lv_iconstN hx hb 1 dL_likeness_15 (by decide) ?_
  refine W.widen (k := 1) (n := 6) (by omega) (by omega) ?_
  exact mu_iret (x := nI 1) hx hb hr hlocks hS ⟨hO, ⟨L, ly, ad, hX, rfl, fun q h => Or.inl h⟩⟩ rfl dL_likeness_16
set_option maxHeartbeats 4000000 in
set_option maxRecDepth 100000 in
theorem mL_likeness_b2 (l : Launch) (hst : l.stackTraces = false) {E : En} {c : Cy} {ly : Ly} {L : List Nat} {ad : Nat → Nat → Nat} {H0 : Heap} (hX : PX E c ly L ad H0) {out : Nat} {w9 : Int64} (hO : oO E out w9 H0) (hoL : out ∉ L) (hob : bA E out) (j : Nat) (v : Int32) (hj : j < c.R 10 2) (hv : isInS v (nI 0) (nI (c.R 10 2) - nI 1) = false) : LwI l yL_likeness cL_likeness 5 [(0, 10, 13, 24)] (rmk 8 1 6 135) [.ref (ad 0 0), .int (nI j), .int v, .ref out] E H0 (nI 1) (oB H0.size E c L (ad 0 0) out w9) (aO L out H0) 1 6 := by
  obtain ⟨hP, hly, hLb, wf⟩ := id hX
  have hlt : out < H0.size := (Array.getElem?_eq_some_iff.mp hO).1
  refine lw_of (by decide) (Nat.le_of_ble_eq_true rfl) ?_
  intro p e s m below meth co ls hx hb hr hml hown hlocks htab hC hNc hU hl
  have hS : va_S (aO L out H0) s.heap H0 [] := by rw [hU]; exact va_S.rf
  have hA : ∀ q, q ∈ L → aO L out H0 q := fun q h => Or.inl h
  have hN : ∀ q, s.heap.size ≤ q → aO L out H0 q := fun q h => Or.inr (Or.inr (by rw [← hU]; exact h))
  have hAb : ∀ q, aO L out H0 q → bA E q := fun q h => h.elim (hLb q) (fun h => h.elim (fun h => by rw [h]; exact hob) (fun z => Nat.le_trans hC.2.2.2.1 (by rw [hU]; exact z)))
  have hl : lv_has ls 5 [(0, .ref (ad 0 0)), (1, .int (nI j)), (2, .int v), (3, .ref out)] := hl
  refine lv_aload_n hx hb dL_likeness_0 rfl (lv_at hl 3 rfl) ?_
  refine lv_iconstN hx hb 0 dL_likeness_1 (by decide) ?_
  refine lv_aload_n hx hb dL_likeness_2 rfl (lv_at hl 0 rfl) ?_
  refine lv_iload_n hx hb dL_likeness_3 rfl (lv_at hl 1 rfl) ?_
  refine lv_iload_n hx hb dL_likeness_4 rfl (lv_at hl 2 rfl) ?_
  refine lw_throw (As := [.int (nI j), .int v]) (h0 := ad 0 0) (rest := [.int (nI 0), .ref out]) hx hb hml hown hC hU (mX3_likeness_b2 l hst hX j v hj hv) kV_L_72 ⟨Nat.le_of_ble_eq_true rfl, Nat.le_of_ble_eq_true rfl⟩ ⟨Nat.le_of_ble_eq_true rfl, Nat.le_of_ble_eq_true rfl⟩ (hP.recv hC cX_0 rfl) rfl hl (Nat.le_of_ble_eq_true rfl) dL_likeness_5 (fun q9 ce H hS2 hce hcv hcl => ?_)
  have hS : va_S (aO L out H0) s.heap H [] := by rw [hU]; exact ⟨hS2.1, fun q h1 _ => hS2.2.1 q h1 (fun z => z), fun _ h => absurd h List.not_mem_nil⟩
  have hX := hX.kept (fun q h1 _ => hS2.2.1 q h1 (fun z => z))
  have hO : oO E out w9 H := (hS2.2.1 out hlt (fun z => z)).trans hO
  refine vx_catch hown (tableOf []) ⟨0, 10, 13, 24⟩ (tableOf []) (htab.trans rfl) (fun z hz => absurd hz List.not_mem_nil) rfl (by decide) (hC.2.1.hts _ _ wCl_L_24) (cs_xIO hC) hce hcv hcl ?_
  refine lv_astore (lv' := [(4, .ref q9), (0, .ref (ad 0 0)), (1, .int (nI j)), (2, .int v), (3, .ref out)]) hx hb dL_likeness_13 hl (by decide) rfl (fun ls hl => ?_)
  refine lv_iconstN hx hb 1 dL_likeness_15 (by decide) ?_
  refine W.widen (k := 1) (n := 6) (by omega) (by omega) ?_
  exact mu_iret (x := nI 1) hx hb hr hlocks hS ⟨hO, ⟨L, ly, ad, hX, rfl, fun q h => Or.inl h⟩⟩ rfl dL_likeness_16
set_option maxHeartbeats 4000000 in
set_option maxRecDepth 100000 in
theorem mL_many_g (l : Launch) {E : En} {c : Cy} {ly : Ly} {L : List Nat} {ad : Nat → Nat → Nat} {H0 : Heap} (hX : PX E c ly L ad H0) {out : Nat} {w9 : Int64} (hO : oO E out w9 H0) (hoL : out ∉ L) (hob : bA E out) (w : Nat) (hw : w ≤ 11) : LwI l yL_many cL_many 4 [(0, 9, 12, 13)] (rmk 6 0 0 135) [.ref (ad 0 0), .int (nI w), .ref out] E H0 (nI 0) (oB H0.size E c L (ad 0 0) out ((maS c (nI w)).toInt64)) (aO L out H0) 0 0 := by
  obtain ⟨hP, hly, hLb, wf⟩ := id hX
  have hlt : out < H0.size := (Array.getElem?_eq_some_iff.mp hO).1
  refine lw_of (by decide) (Nat.le_of_ble_eq_true rfl) ?_
  intro p e s m below meth co ls hx hb hr hml hown hlocks htab hC hNc hU hl
  have hS : va_S (aO L out H0) s.heap H0 [] := by rw [hU]; exact va_S.rf
  have hA : ∀ q, q ∈ L → aO L out H0 q := fun q h => Or.inl h
  have hN : ∀ q, s.heap.size ≤ q → aO L out H0 q := fun q h => Or.inr (Or.inr (by rw [← hU]; exact h))
  have hAb : ∀ q, aO L out H0 q → bA E q := fun q h => h.elim (hLb q) (fun h => h.elim (fun h => by rw [h]; exact hob) (fun z => Nat.le_trans hC.2.2.2.1 (by rw [hU]; exact z)))
  have hl : lv_has ls 4 [(0, .ref (ad 0 0)), (1, .int (nI w)), (2, .ref out)] := hl
  refine lv_aload_n hx hb dL_many_0 rfl (lv_at hl 2 rfl) ?_
  refine lv_iconstN hx hb 0 dL_many_1 (by decide) ?_
  refine lv_aload_n hx hb dL_many_2 rfl (lv_at hl 0 rfl) ?_
  refine lv_iload_n hx hb dL_many_3 rfl (lv_at hl 1 rfl) ?_
  refine ro_V (As := [.int (nI w)]) (h0 := ad 0 0) (rest := [.int (nI 0), .ref out]) (v := maS c (nI w)) hx hb hml hown hC hS hAb (mX3_many_g l hX w hw) kV_L_75 ⟨rfl, rfl⟩ ⟨Nat.le_of_ble_eq_true rfl, Nat.le_of_ble_eq_true rfl⟩ (hP.recv hC cX_0 rfl) rfl hl (Nat.le_of_ble_eq_true rfl) ⟨Nat.zero_le _, Nat.zero_le _⟩ dL_many_4 ?_
  have hoL2 := hoL
  refine lv_i2l (v := (maS c (nI w)).toInt64) hx hb dL_many_7 rfl ?_
  refine lw_last hx hb hC hO hS (Or.inr (Or.inl rfl)) dL_many_8 (fun H locs hO hz1 hk1 hS => ?_)
  have hX := hX.kept (fun q _ h => hk1 q (fun z => hoL2 (by rw [← z]; exact h)))
  refine lv_goto (tgt := 15) hx hb dL_many_9 (by decide) ?_
  refine lv_iconstN hx hb 0 dL_many_15 (by decide) ?_
  refine W.widen (k := 0) (n := 0) (by omega) (by omega) ?_
  exact mu_iret (x := nI 0) hx hb hr hlocks hS ⟨hO, ⟨L, ly, ad, hX, rfl, fun q h => Or.inl h⟩⟩ rfl dL_many_16
set_option maxHeartbeats 4000000 in
set_option maxRecDepth 100000 in
theorem mL_many_b (l : Launch) (hst : l.stackTraces = false) {E : En} {c : Cy} {ly : Ly} {L : List Nat} {ad : Nat → Nat → Nat} {H0 : Heap} (hX : PX E c ly L ad H0) {out : Nat} {w9 : Int64} (hO : oO E out w9 H0) (hoL : out ∉ L) (hob : bA E out) (w : Int32) (hw : isInS w (nI 0) (nI 11) = false) : LwI l yL_many cL_many 4 [(0, 9, 12, 13)] (rmk 7 1 6 111) [.ref (ad 0 0), .int w, .ref out] E H0 (nI 1) (oB H0.size E c L (ad 0 0) out w9) (aO L out H0) 1 6 := by
  obtain ⟨hP, hly, hLb, wf⟩ := id hX
  have hlt : out < H0.size := (Array.getElem?_eq_some_iff.mp hO).1
  refine lw_of (by decide) (Nat.le_of_ble_eq_true rfl) ?_
  intro p e s m below meth co ls hx hb hr hml hown hlocks htab hC hNc hU hl
  have hS : va_S (aO L out H0) s.heap H0 [] := by rw [hU]; exact va_S.rf
  have hA : ∀ q, q ∈ L → aO L out H0 q := fun q h => Or.inl h
  have hN : ∀ q, s.heap.size ≤ q → aO L out H0 q := fun q h => Or.inr (Or.inr (by rw [← hU]; exact h))
  have hAb : ∀ q, aO L out H0 q → bA E q := fun q h => h.elim (hLb q) (fun h => h.elim (fun h => by rw [h]; exact hob) (fun z => Nat.le_trans hC.2.2.2.1 (by rw [hU]; exact z)))
  have hl : lv_has ls 4 [(0, .ref (ad 0 0)), (1, .int w), (2, .ref out)] := hl
  refine lv_aload_n hx hb dL_many_0 rfl (lv_at hl 2 rfl) ?_
  refine lv_iconstN hx hb 0 dL_many_1 (by decide) ?_
  refine lv_aload_n hx hb dL_many_2 rfl (lv_at hl 0 rfl) ?_
  refine lv_iload_n hx hb dL_many_3 rfl (lv_at hl 1 rfl) ?_
  refine lw_throw (As := [.int w]) (h0 := ad 0 0) (rest := [.int (nI 0), .ref out]) hx hb hml hown hC hU (mX3_many_b l hst hX w hw) kV_L_75 ⟨Nat.le_of_ble_eq_true rfl, Nat.le_of_ble_eq_true rfl⟩ ⟨Nat.le_of_ble_eq_true rfl, Nat.le_of_ble_eq_true rfl⟩ (hP.recv hC cX_0 rfl) rfl hl (Nat.le_of_ble_eq_true rfl) dL_many_4 (fun q9 ce H hS2 hce hcv hcl => ?_)
  have hS : va_S (aO L out H0) s.heap H [] := by rw [hU]; exact ⟨hS2.1, fun q h1 _ => hS2.2.1 q h1 (fun z => z), fun _ h => absurd h List.not_mem_nil⟩
  have hX := hX.kept (fun q h1 _ => hS2.2.1 q h1 (fun z => z))
  have hO : oO E out w9 H := (hS2.2.1 out hlt (fun z => z)).trans hO
  refine vx_catch hown (tableOf []) ⟨0, 9, 12, 13⟩ (tableOf []) (htab.trans rfl) (fun z hz => absurd hz List.not_mem_nil) rfl (by decide) (hC.2.1.hts _ _ wCl_L_13) (cs_xIA hC) hce hcv hcl ?_
  refine lv_astore_n (lv' := [(3, .ref q9), (0, .ref (ad 0 0)), (1, .int w), (2, .ref out)]) hx hb dL_many_12 rfl hl (by decide) rfl (fun ls hl => ?_)
  refine lv_iconstN hx hb 1 dL_many_13 (by decide) ?_
  refine W.widen (k := 1) (n := 6) (by omega) (by omega) ?_
  exact mu_iret (x := nI 1) hx hb hr hlocks hS ⟨hO, ⟨L, ly, ad, hX, rfl, fun q h => Or.inl h⟩⟩ rfl dL_many_14
set_option maxHeartbeats 4000000 in
set_option maxRecDepth 100000 in
theorem mL_bestFrom_g (l : Launch) {E : En} {c : Cy} {ly : Ly} {L : List Nat} {ad : Nat → Nat → Nat} {H0 : Heap} (hX : PX E c ly L ad H0) {out : Nat} {w9 : Int64} (hO : oO E out w9 H0) (hoL : out ∉ L) (hob : bA E out) (h i u kd : Nat) (hh : h < c.R 10 1) (hi : i < c.R 10 0) (hu1 : 1 ≤ u) (hu : u ≤ 16) (hkd : kd < 4) : LwI l yL_bestFrom cL_bestFrom 7 [(0, 14, 17, 24), (0, 14, 21, 13)] (rmk 6 0 0 153) [.ref (ad 0 0), .int (nI h), .int (nI i), .int (nI u), .int (nI kd), .ref out] E H0 (nI 0) (oB H0.size E c L (ad 0 0) out ((bfS c h i u kd).toInt64)) (aO L out H0) 0 0 := by
  obtain ⟨hP, hly, hLb, wf⟩ := id hX
  have hlt : out < H0.size := (Array.getElem?_eq_some_iff.mp hO).1
  refine lw_of (by decide) (Nat.le_of_ble_eq_true rfl) ?_
  intro p e s m below meth co ls hx hb hr hml hown hlocks htab hC hNc hU hl
  have hS : va_S (aO L out H0) s.heap H0 [] := by rw [hU]; exact va_S.rf
  have hA : ∀ q, q ∈ L → aO L out H0 q := fun q h => Or.inl h
  have hN : ∀ q, s.heap.size ≤ q → aO L out H0 q := fun q h => Or.inr (Or.inr (by rw [← hU]; exact h))
  have hAb : ∀ q, aO L out H0 q → bA E q := fun q h => h.elim (hLb q) (fun h => h.elim (fun h => by rw [h]; exact hob) (fun z => Nat.le_trans hC.2.2.2.1 (by rw [hU]; exact z)))
  have hl : lv_has ls 7 [(0, .ref (ad 0 0)), (1, .int (nI h)), (2, .int (nI i)), (3, .int (nI u)), (4, .int (nI kd)), (5, .ref out)] := hl
  refine lv_aload hx hb dL_bestFrom_0 (lv_at hl 5 rfl) ?_
  refine lv_iconstN hx hb 0 dL_bestFrom_2 (by decide) ?_
  refine lv_aload_n hx hb dL_bestFrom_3 rfl (lv_at hl 0 rfl) ?_
  refine lv_iload_n hx hb dL_bestFrom_4 rfl (lv_at hl 1 rfl) ?_
  refine lv_iload_n hx hb dL_bestFrom_5 rfl (lv_at hl 2 rfl) ?_
  refine lv_iload_n hx hb dL_bestFrom_6 rfl (lv_at hl 3 rfl) ?_
  refine lv_iload hx hb dL_bestFrom_7 (lv_at hl 4 rfl) ?_
  refine ro_V (As := [.int (nI h), .int (nI i), .int (nI u), .int (nI kd)]) (h0 := ad 0 0) (rest := [.int (nI 0), .ref out]) (v := bfS c h i u kd) hx hb hml hown hC hS hAb (mX3_bestFrom_g l hX h i u kd hh hi hu1 hu hkd) kV_L_78 ⟨rfl, rfl⟩ ⟨Nat.le_of_ble_eq_true rfl, Nat.le_of_ble_eq_true rfl⟩ (hP.recv hC cX_0 rfl) rfl hl (Nat.le_of_ble_eq_true rfl) ⟨Nat.zero_le _, Nat.zero_le _⟩ dL_bestFrom_9 ?_
  have hoL2 := hoL
  refine lv_i2l (v := (bfS c h i u kd).toInt64) hx hb dL_bestFrom_12 rfl ?_
  refine lw_last hx hb hC hO hS (Or.inr (Or.inl rfl)) dL_bestFrom_13 (fun H locs hO hz1 hk1 hS => ?_)
  have hX := hX.kept (fun q _ h => hk1 q (fun z => hoL2 (by rw [← z]; exact h)))
  refine lv_goto (tgt := 25) hx hb dL_bestFrom_14 (by decide) ?_
  refine lv_iconstN hx hb 0 dL_bestFrom_25 (by decide) ?_
  refine W.widen (k := 0) (n := 0) (by omega) (by omega) ?_
  exact mu_iret (x := nI 0) hx hb hr hlocks hS ⟨hO, ⟨L, ly, ad, hX, rfl, fun q h => Or.inl h⟩⟩ rfl dL_bestFrom_26
set_option maxHeartbeats 4000000 in
set_option maxRecDepth 100000 in
theorem mL_bestFrom_b1 (l : Launch) (hst : l.stackTraces = false) {E : En} {c : Cy} {ly : Ly} {L : List Nat} {ad : Nat → Nat → Nat} {H0 : Heap} (hX : PX E c ly L ad H0) {out : Nat} {w9 : Int64} (hO : oO E out w9 H0) (hoL : out ∉ L) (hob : bA E out) (v w u kd : Int32) (hv : isInS v (nI 0) (nI (c.R 10 1) - nI 1) = false) : LwI l yL_bestFrom cL_bestFrom 7 [(0, 14, 17, 24), (0, 14, 21, 13)] (rmk 8 1 6 144) [.ref (ad 0 0), .int v, .int w, .int u, .int kd, .ref out] E H0 (nI 1) (oB H0.size E c L (ad 0 0) out w9) (aO L out H0) 1 6 := by
  obtain ⟨hP, hly, hLb, wf⟩ := id hX
  have hlt : out < H0.size := (Array.getElem?_eq_some_iff.mp hO).1
  refine lw_of (by decide) (Nat.le_of_ble_eq_true rfl) ?_
  intro p e s m below meth co ls hx hb hr hml hown hlocks htab hC hNc hU hl
  have hS : va_S (aO L out H0) s.heap H0 [] := by rw [hU]; exact va_S.rf
  have hA : ∀ q, q ∈ L → aO L out H0 q := fun q h => Or.inl h
  have hN : ∀ q, s.heap.size ≤ q → aO L out H0 q := fun q h => Or.inr (Or.inr (by rw [← hU]; exact h))
  have hAb : ∀ q, aO L out H0 q → bA E q := fun q h => h.elim (hLb q) (fun h => h.elim (fun h => by rw [h]; exact hob) (fun z => Nat.le_trans hC.2.2.2.1 (by rw [hU]; exact z)))
  have hl : lv_has ls 7 [(0, .ref (ad 0 0)), (1, .int v), (2, .int w), (3, .int u), (4, .int kd), (5, .ref out)] := hl
  refine lv_aload hx hb dL_bestFrom_0 (lv_at hl 5 rfl) ?_
  refine lv_iconstN hx hb 0 dL_bestFrom_2 (by decide) ?_
  refine lv_aload_n hx hb dL_bestFrom_3 rfl (lv_at hl 0 rfl) ?_
  refine lv_iload_n hx hb dL_bestFrom_4 rfl (lv_at hl 1 rfl) ?_
  refine lv_iload_n hx hb dL_bestFrom_5 rfl (lv_at hl 2 rfl) ?_
  refine lv_iload_n hx hb dL_bestFrom_6 rfl (lv_at hl 3 rfl) ?_
  refine lv_iload hx hb dL_bestFrom_7 (lv_at hl 4 rfl) ?_
  refine lw_throw (As := [.int v, .int w, .int u, .int kd]) (h0 := ad 0 0) (rest := [.int (nI 0), .ref out]) hx hb hml hown hC hU (mX3_bestFrom_b1 l hst hX v w u kd hv) kV_L_78 ⟨Nat.le_of_ble_eq_true rfl, Nat.le_of_ble_eq_true rfl⟩ ⟨Nat.le_of_ble_eq_true rfl, Nat.le_of_ble_eq_true rfl⟩ (hP.recv hC cX_0 rfl) rfl hl (Nat.le_of_ble_eq_true rfl) dL_bestFrom_9 (fun q9 ce H hS2 hce hcv hcl => ?_)
  have hS : va_S (aO L out H0) s.heap H [] := by rw [hU]; exact ⟨hS2.1, fun q h1 _ => hS2.2.1 q h1 (fun z => z), fun _ h => absurd h List.not_mem_nil⟩
  have hX := hX.kept (fun q h1 _ => hS2.2.1 q h1 (fun z => z))
  have hO : oO E out w9 H := (hS2.2.1 out hlt (fun z => z)).trans hO
  refine vx_catch hown (tableOf []) ⟨0, 14, 17, 24⟩ (tableOf [(0, 14, 21, 13)]) (htab.trans rfl) (fun z hz => absurd hz List.not_mem_nil) rfl (by decide) (hC.2.1.hts _ _ wCl_L_24) (cs_xIO hC) hce hcv hcl ?_
  refine lv_astore (lv' := [(6, .ref q9), (0, .ref (ad 0 0)), (1, .int v), (2, .int w), (3, .int u), (4, .int kd), (5, .ref out)]) hx hb dL_bestFrom_17 hl (by decide) rfl (fun ls hl => ?_)
  refine lv_iconstN hx hb 1 dL_bestFrom_19 (by decide) ?_
  refine W.widen (k := 1) (n := 6) (by omega) (by omega) ?_
  exact mu_iret (x := nI 1) hx hb hr hlocks hS ⟨hO, ⟨L, ly, ad, hX, rfl, fun q h => Or.inl h⟩⟩ rfl dL_bestFrom_20
set_option maxHeartbeats 4000000 in
set_option maxRecDepth 100000 in
theorem mL_bestFrom_b2 (l : Launch) (hst : l.stackTraces = false) {E : En} {c : Cy} {ly : Ly} {L : List Nat} {ad : Nat → Nat → Nat} {H0 : Heap} (hX : PX E c ly L ad H0) {out : Nat} {w9 : Int64} (hO : oO E out w9 H0) (hoL : out ∉ L) (hob : bA E out) (h : Nat) (v u kd : Int32) (hh : h < c.R 10 1) (hv : isInS v (nI 0) (nI (c.R 10 0) - nI 1) = false) : LwI l yL_bestFrom cL_bestFrom 7 [(0, 14, 17, 24), (0, 14, 21, 13)] (rmk 8 1 6 144) [.ref (ad 0 0), .int (nI h), .int v, .int u, .int kd, .ref out] E H0 (nI 1) (oB H0.size E c L (ad 0 0) out w9) (aO L out H0) 1 6 := by
  obtain ⟨hP, hly, hLb, wf⟩ := id hX
  have hlt : out < H0.size := (Array.getElem?_eq_some_iff.mp hO).1
  refine lw_of (by decide) (Nat.le_of_ble_eq_true rfl) ?_
  intro p e s m below meth co ls hx hb hr hml hown hlocks htab hC hNc hU hl
  have hS : va_S (aO L out H0) s.heap H0 [] := by rw [hU]; exact va_S.rf
  have hA : ∀ q, q ∈ L → aO L out H0 q := fun q h => Or.inl h
  have hN : ∀ q, s.heap.size ≤ q → aO L out H0 q := fun q h => Or.inr (Or.inr (by rw [← hU]; exact h))
  have hAb : ∀ q, aO L out H0 q → bA E q := fun q h => h.elim (hLb q) (fun h => h.elim (fun h => by rw [h]; exact hob) (fun z => Nat.le_trans hC.2.2.2.1 (by rw [hU]; exact z)))
  have hl : lv_has ls 7 [(0, .ref (ad 0 0)), (1, .int (nI h)), (2, .int v), (3, .int u), (4, .int kd), (5, .ref out)] := hl
  refine lv_aload hx hb dL_bestFrom_0 (lv_at hl 5 rfl) ?_
  refine lv_iconstN hx hb 0 dL_bestFrom_2 (by decide) ?_
  refine lv_aload_n hx hb dL_bestFrom_3 rfl (lv_at hl 0 rfl) ?_
  refine lv_iload_n hx hb dL_bestFrom_4 rfl (lv_at hl 1 rfl) ?_
  refine lv_iload_n hx hb dL_bestFrom_5 rfl (lv_at hl 2 rfl) ?_
  refine lv_iload_n hx hb dL_bestFrom_6 rfl (lv_at hl 3 rfl) ?_
  refine lv_iload hx hb dL_bestFrom_7 (lv_at hl 4 rfl) ?_
  refine lw_throw (As := [.int (nI h), .int v, .int u, .int kd]) (h0 := ad 0 0) (rest := [.int (nI 0), .ref out]) hx hb hml hown hC hU (mX3_bestFrom_b2 l hst hX h v u kd hh hv) kV_L_78 ⟨Nat.le_of_ble_eq_true rfl, Nat.le_of_ble_eq_true rfl⟩ ⟨Nat.le_of_ble_eq_true rfl, Nat.le_of_ble_eq_true rfl⟩ (hP.recv hC cX_0 rfl) rfl hl (Nat.le_of_ble_eq_true rfl) dL_bestFrom_9 (fun q9 ce H hS2 hce hcv hcl => ?_)
  have hS : va_S (aO L out H0) s.heap H [] := by rw [hU]; exact ⟨hS2.1, fun q h1 _ => hS2.2.1 q h1 (fun z => z), fun _ h => absurd h List.not_mem_nil⟩
  have hX := hX.kept (fun q h1 _ => hS2.2.1 q h1 (fun z => z))
  have hO : oO E out w9 H := (hS2.2.1 out hlt (fun z => z)).trans hO
  refine vx_catch hown (tableOf []) ⟨0, 14, 17, 24⟩ (tableOf [(0, 14, 21, 13)]) (htab.trans rfl) (fun z hz => absurd hz List.not_mem_nil) rfl (by decide) (hC.2.1.hts _ _ wCl_L_24) (cs_xIO hC) hce hcv hcl ?_
  refine lv_astore (lv' := [(6, .ref q9), (0, .ref (ad 0 0)), (1, .int (nI h)), (2, .int v), (3, .int u), (4, .int kd), (5, .ref out)]) hx hb dL_bestFrom_17 hl (by decide) rfl (fun ls hl => ?_)
  refine lv_iconstN hx hb 1 dL_bestFrom_19 (by decide) ?_
  refine W.widen (k := 1) (n := 6) (by omega) (by omega) ?_
  exact mu_iret (x := nI 1) hx hb hr hlocks hS ⟨hO, ⟨L, ly, ad, hX, rfl, fun q h => Or.inl h⟩⟩ rfl dL_bestFrom_20
set_option maxHeartbeats 4000000 in
set_option maxRecDepth 100000 in
theorem mL_bestFrom_b3 (l : Launch) (hst : l.stackTraces = false) {E : En} {c : Cy} {ly : Ly} {L : List Nat} {ad : Nat → Nat → Nat} {H0 : Heap} (hX : PX E c ly L ad H0) {out : Nat} {w9 : Int64} (hO : oO E out w9 H0) (hoL : out ∉ L) (hob : bA E out) (h i : Nat) (u kd : Int32) (hh : h < c.R 10 1) (hi : i < c.R 10 0) (hu : isInS u (nI 1) (nI 16) = false) : LwI l yL_bestFrom cL_bestFrom 7 [(0, 14, 17, 24), (0, 14, 21, 13)] (rmk 7 1 6 123) [.ref (ad 0 0), .int (nI h), .int (nI i), .int u, .int kd, .ref out] E H0 (nI 2) (oB H0.size E c L (ad 0 0) out w9) (aO L out H0) 1 6 := by
  obtain ⟨hP, hly, hLb, wf⟩ := id hX
  have hlt : out < H0.size := (Array.getElem?_eq_some_iff.mp hO).1
  refine lw_of (by decide) (Nat.le_of_ble_eq_true rfl) ?_
  intro p e s m below meth co ls hx hb hr hml hown hlocks htab hC hNc hU hl
  have hS : va_S (aO L out H0) s.heap H0 [] := by rw [hU]; exact va_S.rf
  have hA : ∀ q, q ∈ L → aO L out H0 q := fun q h => Or.inl h
  have hN : ∀ q, s.heap.size ≤ q → aO L out H0 q := fun q h => Or.inr (Or.inr (by rw [← hU]; exact h))
  have hAb : ∀ q, aO L out H0 q → bA E q := fun q h => h.elim (hLb q) (fun h => h.elim (fun h => by rw [h]; exact hob) (fun z => Nat.le_trans hC.2.2.2.1 (by rw [hU]; exact z)))
  have hl : lv_has ls 7 [(0, .ref (ad 0 0)), (1, .int (nI h)), (2, .int (nI i)), (3, .int u), (4, .int kd), (5, .ref out)] := hl
  refine lv_aload hx hb dL_bestFrom_0 (lv_at hl 5 rfl) ?_
  refine lv_iconstN hx hb 0 dL_bestFrom_2 (by decide) ?_
  refine lv_aload_n hx hb dL_bestFrom_3 rfl (lv_at hl 0 rfl) ?_
  refine lv_iload_n hx hb dL_bestFrom_4 rfl (lv_at hl 1 rfl) ?_
  refine lv_iload_n hx hb dL_bestFrom_5 rfl (lv_at hl 2 rfl) ?_
  refine lv_iload_n hx hb dL_bestFrom_6 rfl (lv_at hl 3 rfl) ?_
  refine lv_iload hx hb dL_bestFrom_7 (lv_at hl 4 rfl) ?_
  refine lw_throw (As := [.int (nI h), .int (nI i), .int u, .int kd]) (h0 := ad 0 0) (rest := [.int (nI 0), .ref out]) hx hb hml hown hC hU (mX3_bestFrom_b3 l hst hX h i u kd hh hi hu) kV_L_78 ⟨Nat.le_of_ble_eq_true rfl, Nat.le_of_ble_eq_true rfl⟩ ⟨Nat.le_of_ble_eq_true rfl, Nat.le_of_ble_eq_true rfl⟩ (hP.recv hC cX_0 rfl) rfl hl (Nat.le_of_ble_eq_true rfl) dL_bestFrom_9 (fun q9 ce H hS2 hce hcv hcl => ?_)
  have hS : va_S (aO L out H0) s.heap H [] := by rw [hU]; exact ⟨hS2.1, fun q h1 _ => hS2.2.1 q h1 (fun z => z), fun _ h => absurd h List.not_mem_nil⟩
  have hX := hX.kept (fun q h1 _ => hS2.2.1 q h1 (fun z => z))
  have hO : oO E out w9 H := (hS2.2.1 out hlt (fun z => z)).trans hO
  refine vx_catch hown (tableOf [(0, 14, 17, 24)]) ⟨0, 14, 21, 13⟩ (tableOf []) (htab.trans rfl) (fun z hz => by rw [List.mem_singleton.mp hz]; exact Or.inr ⟨by decide, xIO, hC.2.1.hts _ _ wCl_L_24, hNc.1⟩) rfl (by decide) (hC.2.1.hts _ _ wCl_L_13) (cs_xIA hC) hce hcv hcl ?_
  refine lv_astore (lv' := [(6, .ref q9), (0, .ref (ad 0 0)), (1, .int (nI h)), (2, .int (nI i)), (3, .int u), (4, .int kd), (5, .ref out)]) hx hb dL_bestFrom_21 hl (by decide) rfl (fun ls hl => ?_)
  refine lv_iconstN hx hb 2 dL_bestFrom_23 (by decide) ?_
  refine W.widen (k := 1) (n := 6) (by omega) (by omega) ?_
  exact mu_iret (x := nI 2) hx hb hr hlocks hS ⟨hO, ⟨L, ly, ad, hX, rfl, fun q h => Or.inl h⟩⟩ rfl dL_bestFrom_24
set_option maxHeartbeats 4000000 in
set_option maxRecDepth 100000 in
theorem mL_bestFrom_b4 (l : Launch) (hst : l.stackTraces = false) {E : En} {c : Cy} {ly : Ly} {L : List Nat} {ad : Nat → Nat → Nat} {H0 : Heap} (hX : PX E c ly L ad H0) {out : Nat} {w9 : Int64} (hO : oO E out w9 H0) (hoL : out ∉ L) (hob : bA E out) (h i : Nat) (u kd : Int32) (hh : h < c.R 10 1) (hi : i < c.R 10 0) (hu : isInS u (nI 1) (nI 16) = true) (hk : isInS kd (nI 0) (nI 3) = false) : LwI l yL_bestFrom cL_bestFrom 7 [(0, 14, 17, 24), (0, 14, 21, 13)] (rmk 7 1 6 123) [.ref (ad 0 0), .int (nI h), .int (nI i), .int u, .int kd, .ref out] E H0 (nI 2) (oB H0.size E c L (ad 0 0) out w9) (aO L out H0) 1 6 := by
  obtain ⟨hP, hly, hLb, wf⟩ := id hX
  have hlt : out < H0.size := (Array.getElem?_eq_some_iff.mp hO).1
  refine lw_of (by decide) (Nat.le_of_ble_eq_true rfl) ?_
  intro p e s m below meth co ls hx hb hr hml hown hlocks htab hC hNc hU hl
  have hS : va_S (aO L out H0) s.heap H0 [] := by rw [hU]; exact va_S.rf
  have hA : ∀ q, q ∈ L → aO L out H0 q := fun q h => Or.inl h
  have hN : ∀ q, s.heap.size ≤ q → aO L out H0 q := fun q h => Or.inr (Or.inr (by rw [← hU]; exact h))
  have hAb : ∀ q, aO L out H0 q → bA E q := fun q h => h.elim (hLb q) (fun h => h.elim (fun h => by rw [h]; exact hob) (fun z => Nat.le_trans hC.2.2.2.1 (by rw [hU]; exact z)))
  have hl : lv_has ls 7 [(0, .ref (ad 0 0)), (1, .int (nI h)), (2, .int (nI i)), (3, .int u), (4, .int kd), (5, .ref out)] := hl
  refine lv_aload hx hb dL_bestFrom_0 (lv_at hl 5 rfl) ?_
  refine lv_iconstN hx hb 0 dL_bestFrom_2 (by decide) ?_
  refine lv_aload_n hx hb dL_bestFrom_3 rfl (lv_at hl 0 rfl) ?_
  refine lv_iload_n hx hb dL_bestFrom_4 rfl (lv_at hl 1 rfl) ?_
  refine lv_iload_n hx hb dL_bestFrom_5 rfl (lv_at hl 2 rfl) ?_
  refine lv_iload_n hx hb dL_bestFrom_6 rfl (lv_at hl 3 rfl) ?_
  refine lv_iload hx hb dL_bestFrom_7 (lv_at hl 4 rfl) ?_
  refine lw_throw (As := [.int (nI h), .int (nI i), .int u, .int kd]) (h0 := ad 0 0) (rest := [.int (nI 0), .ref out]) hx hb hml hown hC hU (mX3_bestFrom_b4 l hst hX h i u kd hh hi hu hk) kV_L_78 ⟨Nat.le_of_ble_eq_true rfl, Nat.le_of_ble_eq_true rfl⟩ ⟨Nat.le_of_ble_eq_true rfl, Nat.le_of_ble_eq_true rfl⟩ (hP.recv hC cX_0 rfl) rfl hl (Nat.le_of_ble_eq_true rfl) dL_bestFrom_9 (fun q9 ce H hS2 hce hcv hcl => ?_)
  have hS : va_S (aO L out H0) s.heap H [] := by rw [hU]; exact ⟨hS2.1, fun q h1 _ => hS2.2.1 q h1 (fun z => z), fun _ h => absurd h List.not_mem_nil⟩
  have hX := hX.kept (fun q h1 _ => hS2.2.1 q h1 (fun z => z))
  have hO : oO E out w9 H := (hS2.2.1 out hlt (fun z => z)).trans hO
  refine vx_catch hown (tableOf [(0, 14, 17, 24)]) ⟨0, 14, 21, 13⟩ (tableOf []) (htab.trans rfl) (fun z hz => by rw [List.mem_singleton.mp hz]; exact Or.inr ⟨by decide, xIO, hC.2.1.hts _ _ wCl_L_24, hNc.1⟩) rfl (by decide) (hC.2.1.hts _ _ wCl_L_13) (cs_xIA hC) hce hcv hcl ?_
  refine lv_astore (lv' := [(6, .ref q9), (0, .ref (ad 0 0)), (1, .int (nI h)), (2, .int (nI i)), (3, .int u), (4, .int kd), (5, .ref out)]) hx hb dL_bestFrom_21 hl (by decide) rfl (fun ls hl => ?_)
  refine lv_iconstN hx hb 2 dL_bestFrom_23 (by decide) ?_
  refine W.widen (k := 1) (n := 6) (by omega) (by omega) ?_
  exact mu_iret (x := nI 2) hx hb hr hlocks hS ⟨hO, ⟨L, ly, ad, hX, rfl, fun q h => Or.inl h⟩⟩ rfl dL_bestFrom_24
set_option maxHeartbeats 4000000 in
set_option maxRecDepth 100000 in
theorem mL_wouldWrong_g (l : Launch) {E : En} {c : Cy} {ly : Ly} {L : List Nat} {ad : Nat → Nat → Nat} {H0 : Heap} (hX : PX E c ly L ad H0) {out : Nat} {w9 : Int64} (hO : oO E out w9 H0) (hoL : out ∉ L) (hob : bA E out) (h i f u kd : Nat) (hh : h < c.R 10 1) (hi : i < c.R 10 0) (hf : f + u ≤ c.R 1 i) (hu : 1 ≤ u) (hkd : kd < 4) : LwI l yL_wouldWrong cL_wouldWrong 8 [(0, 16, 19, 24), (0, 16, 23, 13)] (rmk 6 0 0 147) [.ref (ad 0 0), .int (nI h), .int (nI i), .int (nI f), .int (nI u), .int (nI kd), .ref out] E H0 (nI 0) (oB H0.size E c L (ad 0 0) out ((nI (cwrS c h i f u kd)).toInt64)) (aO L out H0) 0 0 := by
  obtain ⟨hP, hly, hLb, wf⟩ := id hX
  have hlt : out < H0.size := (Array.getElem?_eq_some_iff.mp hO).1
  refine lw_of (by decide) (Nat.le_of_ble_eq_true rfl) ?_
  intro p e s m below meth co ls hx hb hr hml hown hlocks htab hC hNc hU hl
  have hS : va_S (aO L out H0) s.heap H0 [] := by rw [hU]; exact va_S.rf
  have hA : ∀ q, q ∈ L → aO L out H0 q := fun q h => Or.inl h
  have hN : ∀ q, s.heap.size ≤ q → aO L out H0 q := fun q h => Or.inr (Or.inr (by rw [← hU]; exact h))
  have hAb : ∀ q, aO L out H0 q → bA E q := fun q h => h.elim (hLb q) (fun h => h.elim (fun h => by rw [h]; exact hob) (fun z => Nat.le_trans hC.2.2.2.1 (by rw [hU]; exact z)))
  have hl : lv_has ls 8 [(0, .ref (ad 0 0)), (1, .int (nI h)), (2, .int (nI i)), (3, .int (nI f)), (4, .int (nI u)), (5, .int (nI kd)), (6, .ref out)] := hl
  refine lv_aload hx hb dL_wouldWrong_0 (lv_at hl 6 rfl) ?_
  refine lv_iconstN hx hb 0 dL_wouldWrong_2 (by decide) ?_
  refine lv_aload_n hx hb dL_wouldWrong_3 rfl (lv_at hl 0 rfl) ?_
  refine lv_iload_n hx hb dL_wouldWrong_4 rfl (lv_at hl 1 rfl) ?_
  refine lv_iload_n hx hb dL_wouldWrong_5 rfl (lv_at hl 2 rfl) ?_
  refine lv_iload_n hx hb dL_wouldWrong_6 rfl (lv_at hl 3 rfl) ?_
  refine lv_iload hx hb dL_wouldWrong_7 (lv_at hl 4 rfl) ?_
  refine lv_iload hx hb dL_wouldWrong_9 (lv_at hl 5 rfl) ?_
  refine ro_V (As := [.int (nI h), .int (nI i), .int (nI f), .int (nI u), .int (nI kd)]) (h0 := ad 0 0) (rest := [.int (nI 0), .ref out]) (v := nI (cwrS c h i f u kd)) hx hb hml hown hC hS hAb (mX3_wouldWrong_g l hX h i f u kd hh hi hf hu hkd) kV_L_81 ⟨rfl, rfl⟩ ⟨Nat.le_of_ble_eq_true rfl, Nat.le_of_ble_eq_true rfl⟩ (hP.recv hC cX_0 rfl) rfl hl (Nat.le_of_ble_eq_true rfl) ⟨Nat.zero_le _, Nat.zero_le _⟩ dL_wouldWrong_11 ?_
  have hoL2 := hoL
  refine lv_i2l (v := (nI (cwrS c h i f u kd)).toInt64) hx hb dL_wouldWrong_14 rfl ?_
  refine lw_last hx hb hC hO hS (Or.inr (Or.inl rfl)) dL_wouldWrong_15 (fun H locs hO hz1 hk1 hS => ?_)
  have hX := hX.kept (fun q _ h => hk1 q (fun z => hoL2 (by rw [← z]; exact h)))
  refine lv_goto (tgt := 27) hx hb dL_wouldWrong_16 (by decide) ?_
  refine lv_iconstN hx hb 0 dL_wouldWrong_27 (by decide) ?_
  refine W.widen (k := 0) (n := 0) (by omega) (by omega) ?_
  exact mu_iret (x := nI 0) hx hb hr hlocks hS ⟨hO, ⟨L, ly, ad, hX, rfl, fun q h => Or.inl h⟩⟩ rfl dL_wouldWrong_28
set_option maxHeartbeats 4000000 in
set_option maxRecDepth 100000 in
theorem mL_wouldWrong_b1 (l : Launch) (hst : l.stackTraces = false) {E : En} {c : Cy} {ly : Ly} {L : List Nat} {ad : Nat → Nat → Nat} {H0 : Heap} (hX : PX E c ly L ad H0) {out : Nat} {w9 : Int64} (hO : oO E out w9 H0) (hoL : out ∉ L) (hob : bA E out) (v w f u kd : Int32) (hv : isInS v (nI 0) (nI (c.R 10 1) - nI 1) = false) : LwI l yL_wouldWrong cL_wouldWrong 8 [(0, 16, 19, 24), (0, 16, 23, 13)] (rmk 8 1 6 138) [.ref (ad 0 0), .int v, .int w, .int f, .int u, .int kd, .ref out] E H0 (nI 1) (oB H0.size E c L (ad 0 0) out w9) (aO L out H0) 1 6 := by
  obtain ⟨hP, hly, hLb, wf⟩ := id hX
  have hlt : out < H0.size := (Array.getElem?_eq_some_iff.mp hO).1
  refine lw_of (by decide) (Nat.le_of_ble_eq_true rfl) ?_
  intro p e s m below meth co ls hx hb hr hml hown hlocks htab hC hNc hU hl
  have hS : va_S (aO L out H0) s.heap H0 [] := by rw [hU]; exact va_S.rf
  have hA : ∀ q, q ∈ L → aO L out H0 q := fun q h => Or.inl h
  have hN : ∀ q, s.heap.size ≤ q → aO L out H0 q := fun q h => Or.inr (Or.inr (by rw [← hU]; exact h))
  have hAb : ∀ q, aO L out H0 q → bA E q := fun q h => h.elim (hLb q) (fun h => h.elim (fun h => by rw [h]; exact hob) (fun z => Nat.le_trans hC.2.2.2.1 (by rw [hU]; exact z)))
  have hl : lv_has ls 8 [(0, .ref (ad 0 0)), (1, .int v), (2, .int w), (3, .int f), (4, .int u), (5, .int kd), (6, .ref out)] := hl
  refine lv_aload hx hb dL_wouldWrong_0 (lv_at hl 6 rfl) ?_
  refine lv_iconstN hx hb 0 dL_wouldWrong_2 (by decide) ?_
  refine lv_aload_n hx hb dL_wouldWrong_3 rfl (lv_at hl 0 rfl) ?_
  refine lv_iload_n hx hb dL_wouldWrong_4 rfl (lv_at hl 1 rfl) ?_
  refine lv_iload_n hx hb dL_wouldWrong_5 rfl (lv_at hl 2 rfl) ?_
  refine lv_iload_n hx hb dL_wouldWrong_6 rfl (lv_at hl 3 rfl) ?_
  refine lv_iload hx hb dL_wouldWrong_7 (lv_at hl 4 rfl) ?_
  refine lv_iload hx hb dL_wouldWrong_9 (lv_at hl 5 rfl) ?_
  refine lw_throw (As := [.int v, .int w, .int f, .int u, .int kd]) (h0 := ad 0 0) (rest := [.int (nI 0), .ref out]) hx hb hml hown hC hU (mX3_wouldWrong_b1 l hst hX v w f u kd hv) kV_L_81 ⟨Nat.le_of_ble_eq_true rfl, Nat.le_of_ble_eq_true rfl⟩ ⟨Nat.le_of_ble_eq_true rfl, Nat.le_of_ble_eq_true rfl⟩ (hP.recv hC cX_0 rfl) rfl hl (Nat.le_of_ble_eq_true rfl) dL_wouldWrong_11 (fun q9 ce H hS2 hce hcv hcl => ?_)
  have hS : va_S (aO L out H0) s.heap H [] := by rw [hU]; exact ⟨hS2.1, fun q h1 _ => hS2.2.1 q h1 (fun z => z), fun _ h => absurd h List.not_mem_nil⟩
  have hX := hX.kept (fun q h1 _ => hS2.2.1 q h1 (fun z => z))
  have hO : oO E out w9 H := (hS2.2.1 out hlt (fun z => z)).trans hO
  refine vx_catch hown (tableOf []) ⟨0, 16, 19, 24⟩ (tableOf [(0, 16, 23, 13)]) (htab.trans rfl) (fun z hz => absurd hz List.not_mem_nil) rfl (by decide) (hC.2.1.hts _ _ wCl_L_24) (cs_xIO hC) hce hcv hcl ?_
  refine lv_astore (lv' := [(7, .ref q9), (0, .ref (ad 0 0)), (1, .int v), (2, .int w), (3, .int f), (4, .int u), (5, .int kd), (6, .ref out)]) hx hb dL_wouldWrong_19 hl (by decide) rfl (fun ls hl => ?_)
  refine lv_iconstN hx hb 1 dL_wouldWrong_21 (by decide) ?_
  refine W.widen (k := 1) (n := 6) (by omega) (by omega) ?_
  exact mu_iret (x := nI 1) hx hb hr hlocks hS ⟨hO, ⟨L, ly, ad, hX, rfl, fun q h => Or.inl h⟩⟩ rfl dL_wouldWrong_22
set_option maxHeartbeats 4000000 in
set_option maxRecDepth 100000 in
theorem mL_wouldWrong_b2 (l : Launch) (hst : l.stackTraces = false) {E : En} {c : Cy} {ly : Ly} {L : List Nat} {ad : Nat → Nat → Nat} {H0 : Heap} (hX : PX E c ly L ad H0) {out : Nat} {w9 : Int64} (hO : oO E out w9 H0) (hoL : out ∉ L) (hob : bA E out) (h : Nat) (v f u kd : Int32) (hh : h < c.R 10 1) (hv : isInS v (nI 0) (nI (c.R 10 0) - nI 1) = false) : LwI l yL_wouldWrong cL_wouldWrong 8 [(0, 16, 19, 24), (0, 16, 23, 13)] (rmk 8 1 6 138) [.ref (ad 0 0), .int (nI h), .int v, .int f, .int u, .int kd, .ref out] E H0 (nI 1) (oB H0.size E c L (ad 0 0) out w9) (aO L out H0) 1 6 := by
  obtain ⟨hP, hly, hLb, wf⟩ := id hX
  have hlt : out < H0.size := (Array.getElem?_eq_some_iff.mp hO).1
  refine lw_of (by decide) (Nat.le_of_ble_eq_true rfl) ?_
  intro p e s m below meth co ls hx hb hr hml hown hlocks htab hC hNc hU hl
  have hS : va_S (aO L out H0) s.heap H0 [] := by rw [hU]; exact va_S.rf
  have hA : ∀ q, q ∈ L → aO L out H0 q := fun q h => Or.inl h
  have hN : ∀ q, s.heap.size ≤ q → aO L out H0 q := fun q h => Or.inr (Or.inr (by rw [← hU]; exact h))
  have hAb : ∀ q, aO L out H0 q → bA E q := fun q h => h.elim (hLb q) (fun h => h.elim (fun h => by rw [h]; exact hob) (fun z => Nat.le_trans hC.2.2.2.1 (by rw [hU]; exact z)))
  have hl : lv_has ls 8 [(0, .ref (ad 0 0)), (1, .int (nI h)), (2, .int v), (3, .int f), (4, .int u), (5, .int kd), (6, .ref out)] := hl
  refine lv_aload hx hb dL_wouldWrong_0 (lv_at hl 6 rfl) ?_
  refine lv_iconstN hx hb 0 dL_wouldWrong_2 (by decide) ?_
  refine lv_aload_n hx hb dL_wouldWrong_3 rfl (lv_at hl 0 rfl) ?_
  refine lv_iload_n hx hb dL_wouldWrong_4 rfl (lv_at hl 1 rfl) ?_
  refine lv_iload_n hx hb dL_wouldWrong_5 rfl (lv_at hl 2 rfl) ?_
  refine lv_iload_n hx hb dL_wouldWrong_6 rfl (lv_at hl 3 rfl) ?_
  refine lv_iload hx hb dL_wouldWrong_7 (lv_at hl 4 rfl) ?_
  refine lv_iload hx hb dL_wouldWrong_9 (lv_at hl 5 rfl) ?_
  refine lw_throw (As := [.int (nI h), .int v, .int f, .int u, .int kd]) (h0 := ad 0 0) (rest := [.int (nI 0), .ref out]) hx hb hml hown hC hU (mX3_wouldWrong_b2 l hst hX h v f u kd hh hv) kV_L_81 ⟨Nat.le_of_ble_eq_true rfl, Nat.le_of_ble_eq_true rfl⟩ ⟨Nat.le_of_ble_eq_true rfl, Nat.le_of_ble_eq_true rfl⟩ (hP.recv hC cX_0 rfl) rfl hl (Nat.le_of_ble_eq_true rfl) dL_wouldWrong_11 (fun q9 ce H hS2 hce hcv hcl => ?_)
  have hS : va_S (aO L out H0) s.heap H [] := by rw [hU]; exact ⟨hS2.1, fun q h1 _ => hS2.2.1 q h1 (fun z => z), fun _ h => absurd h List.not_mem_nil⟩
  have hX := hX.kept (fun q h1 _ => hS2.2.1 q h1 (fun z => z))
  have hO : oO E out w9 H := (hS2.2.1 out hlt (fun z => z)).trans hO
  refine vx_catch hown (tableOf []) ⟨0, 16, 19, 24⟩ (tableOf [(0, 16, 23, 13)]) (htab.trans rfl) (fun z hz => absurd hz List.not_mem_nil) rfl (by decide) (hC.2.1.hts _ _ wCl_L_24) (cs_xIO hC) hce hcv hcl ?_
  refine lv_astore (lv' := [(7, .ref q9), (0, .ref (ad 0 0)), (1, .int (nI h)), (2, .int v), (3, .int f), (4, .int u), (5, .int kd), (6, .ref out)]) hx hb dL_wouldWrong_19 hl (by decide) rfl (fun ls hl => ?_)
  refine lv_iconstN hx hb 1 dL_wouldWrong_21 (by decide) ?_
  refine W.widen (k := 1) (n := 6) (by omega) (by omega) ?_
  exact mu_iret (x := nI 1) hx hb hr hlocks hS ⟨hO, ⟨L, ly, ad, hX, rfl, fun q h => Or.inl h⟩⟩ rfl dL_wouldWrong_22
set_option maxHeartbeats 4000000 in
set_option maxRecDepth 100000 in
theorem mL_wouldWrong_b3 (l : Launch) (hst : l.stackTraces = false) {E : En} {c : Cy} {ly : Ly} {L : List Nat} {ad : Nat → Nat → Nat} {H0 : Heap} (hX : PX E c ly L ad H0) {out : Nat} {w9 : Int64} (hO : oO E out w9 H0) (hoL : out ∉ L) (hob : bA E out) (h i : Nat) (f u kd : Int32) (hh : h < c.R 10 1) (hi : i < c.R 10 0) (hf : hasS c i f u = false) : LwI l yL_wouldWrong cL_wouldWrong 8 [(0, 16, 19, 24), (0, 16, 23, 13)] (rmk 7 1 6 117) [.ref (ad 0 0), .int (nI h), .int (nI i), .int f, .int u, .int kd, .ref out] E H0 (nI 2) (oB H0.size E c L (ad 0 0) out w9) (aO L out H0) 1 6 := by
  obtain ⟨hP, hly, hLb, wf⟩ := id hX
  have hlt : out < H0.size := (Array.getElem?_eq_some_iff.mp hO).1
  refine lw_of (by decide) (Nat.le_of_ble_eq_true rfl) ?_
  intro p e s m below meth co ls hx hb hr hml hown hlocks htab hC hNc hU hl
  have hS : va_S (aO L out H0) s.heap H0 [] := by rw [hU]; exact va_S.rf
  have hA : ∀ q, q ∈ L → aO L out H0 q := fun q h => Or.inl h
  have hN : ∀ q, s.heap.size ≤ q → aO L out H0 q := fun q h => Or.inr (Or.inr (by rw [← hU]; exact h))
  have hAb : ∀ q, aO L out H0 q → bA E q := fun q h => h.elim (hLb q) (fun h => h.elim (fun h => by rw [h]; exact hob) (fun z => Nat.le_trans hC.2.2.2.1 (by rw [hU]; exact z)))
  have hl : lv_has ls 8 [(0, .ref (ad 0 0)), (1, .int (nI h)), (2, .int (nI i)), (3, .int f), (4, .int u), (5, .int kd), (6, .ref out)] := hl
  refine lv_aload hx hb dL_wouldWrong_0 (lv_at hl 6 rfl) ?_
  refine lv_iconstN hx hb 0 dL_wouldWrong_2 (by decide) ?_
  refine lv_aload_n hx hb dL_wouldWrong_3 rfl (lv_at hl 0 rfl) ?_
  refine lv_iload_n hx hb dL_wouldWrong_4 rfl (lv_at hl 1 rfl) ?_
  refine lv_iload_n hx hb dL_wouldWrong_5 rfl (lv_at hl 2 rfl) ?_
  refine lv_iload_n hx hb dL_wouldWrong_6 rfl (lv_at hl 3 rfl) ?_
  refine lv_iload hx hb dL_wouldWrong_7 (lv_at hl 4 rfl) ?_
  refine lv_iload hx hb dL_wouldWrong_9 (lv_at hl 5 rfl) ?_
  refine lw_throw (As := [.int (nI h), .int (nI i), .int f, .int u, .int kd]) (h0 := ad 0 0) (rest := [.int (nI 0), .ref out]) hx hb hml hown hC hU (mX3_wouldWrong_b3 l hst hX h i f u kd hh hi hf) kV_L_81 ⟨Nat.le_of_ble_eq_true rfl, Nat.le_of_ble_eq_true rfl⟩ ⟨Nat.le_of_ble_eq_true rfl, Nat.le_of_ble_eq_true rfl⟩ (hP.recv hC cX_0 rfl) rfl hl (Nat.le_of_ble_eq_true rfl) dL_wouldWrong_11 (fun q9 ce H hS2 hce hcv hcl => ?_)
  have hS : va_S (aO L out H0) s.heap H [] := by rw [hU]; exact ⟨hS2.1, fun q h1 _ => hS2.2.1 q h1 (fun z => z), fun _ h => absurd h List.not_mem_nil⟩
  have hX := hX.kept (fun q h1 _ => hS2.2.1 q h1 (fun z => z))
  have hO : oO E out w9 H := (hS2.2.1 out hlt (fun z => z)).trans hO
  refine vx_catch hown (tableOf [(0, 16, 19, 24)]) ⟨0, 16, 23, 13⟩ (tableOf []) (htab.trans rfl) (fun z hz => by rw [List.mem_singleton.mp hz]; exact Or.inr ⟨by decide, xIO, hC.2.1.hts _ _ wCl_L_24, hNc.1⟩) rfl (by decide) (hC.2.1.hts _ _ wCl_L_13) (cs_xIA hC) hce hcv hcl ?_
  refine lv_astore (lv' := [(7, .ref q9), (0, .ref (ad 0 0)), (1, .int (nI h)), (2, .int (nI i)), (3, .int f), (4, .int u), (5, .int kd), (6, .ref out)]) hx hb dL_wouldWrong_23 hl (by decide) rfl (fun ls hl => ?_)
  refine lv_iconstN hx hb 2 dL_wouldWrong_25 (by decide) ?_
  refine W.widen (k := 1) (n := 6) (by omega) (by omega) ?_
  exact mu_iret (x := nI 2) hx hb hr hlocks hS ⟨hO, ⟨L, ly, ad, hX, rfl, fun q h => Or.inl h⟩⟩ rfl dL_wouldWrong_26
set_option maxHeartbeats 4000000 in
set_option maxRecDepth 100000 in
theorem mL_wouldWrong_b4 (l : Launch) (hst : l.stackTraces = false) {E : En} {c : Cy} {ly : Ly} {L : List Nat} {ad : Nat → Nat → Nat} {H0 : Heap} (hX : PX E c ly L ad H0) {out : Nat} {w9 : Int64} (hO : oO E out w9 H0) (hoL : out ∉ L) (hob : bA E out) (h i : Nat) (f u kd : Int32) (hh : h < c.R 10 1) (hi : i < c.R 10 0) (hf : hasS c i f u = true) (hk : isInS kd (nI 0) (nI 3) = false) : LwI l yL_wouldWrong cL_wouldWrong 8 [(0, 16, 19, 24), (0, 16, 23, 13)] (rmk 7 1 6 117) [.ref (ad 0 0), .int (nI h), .int (nI i), .int f, .int u, .int kd, .ref out] E H0 (nI 2) (oB H0.size E c L (ad 0 0) out w9) (aO L out H0) 1 6 := by
  obtain ⟨hP, hly, hLb, wf⟩ := id hX
  have hlt : out < H0.size := (Array.getElem?_eq_some_iff.mp hO).1
  refine lw_of (by decide) (Nat.le_of_ble_eq_true rfl) ?_
  intro p e s m below meth co ls hx hb hr hml hown hlocks htab hC hNc hU hl
  have hS : va_S (aO L out H0) s.heap H0 [] := by rw [hU]; exact va_S.rf
  have hA : ∀ q, q ∈ L → aO L out H0 q := fun q h => Or.inl h
  have hN : ∀ q, s.heap.size ≤ q → aO L out H0 q := fun q h => Or.inr (Or.inr (by rw [← hU]; exact h))
  have hAb : ∀ q, aO L out H0 q → bA E q := fun q h => h.elim (hLb q) (fun h => h.elim (fun h => by rw [h]; exact hob) (fun z => Nat.le_trans hC.2.2.2.1 (by rw [hU]; exact z)))
  have hl : lv_has ls 8 [(0, .ref (ad 0 0)), (1, .int (nI h)), (2, .int (nI i)), (3, .int f), (4, .int u), (5, .int kd), (6, .ref out)] := hl
  refine lv_aload hx hb dL_wouldWrong_0 (lv_at hl 6 rfl) ?_
  refine lv_iconstN hx hb 0 dL_wouldWrong_2 (by decide) ?_
  refine lv_aload_n hx hb dL_wouldWrong_3 rfl (lv_at hl 0 rfl) ?_
  refine lv_iload_n hx hb dL_wouldWrong_4 rfl (lv_at hl 1 rfl) ?_
  refine lv_iload_n hx hb dL_wouldWrong_5 rfl (lv_at hl 2 rfl) ?_
  refine lv_iload_n hx hb dL_wouldWrong_6 rfl (lv_at hl 3 rfl) ?_
  refine lv_iload hx hb dL_wouldWrong_7 (lv_at hl 4 rfl) ?_
  refine lv_iload hx hb dL_wouldWrong_9 (lv_at hl 5 rfl) ?_
  refine lw_throw (As := [.int (nI h), .int (nI i), .int f, .int u, .int kd]) (h0 := ad 0 0) (rest := [.int (nI 0), .ref out]) hx hb hml hown hC hU (mX3_wouldWrong_b4 l hst hX h i f u kd hh hi hf hk) kV_L_81 ⟨Nat.le_of_ble_eq_true rfl, Nat.le_of_ble_eq_true rfl⟩ ⟨Nat.le_of_ble_eq_true rfl, Nat.le_of_ble_eq_true rfl⟩ (hP.recv hC cX_0 rfl) rfl hl (Nat.le_of_ble_eq_true rfl) dL_wouldWrong_11 (fun q9 ce H hS2 hce hcv hcl => ?_)
  have hS : va_S (aO L out H0) s.heap H [] := by rw [hU]; exact ⟨hS2.1, fun q h1 _ => hS2.2.1 q h1 (fun z => z), fun _ h => absurd h List.not_mem_nil⟩
  have hX := hX.kept (fun q h1 _ => hS2.2.1 q h1 (fun z => z))
  have hO : oO E out w9 H := (hS2.2.1 out hlt (fun z => z)).trans hO
  refine vx_catch hown (tableOf [(0, 16, 19, 24)]) ⟨0, 16, 23, 13⟩ (tableOf []) (htab.trans rfl) (fun z hz => by rw [List.mem_singleton.mp hz]; exact Or.inr ⟨by decide, xIO, hC.2.1.hts _ _ wCl_L_24, hNc.1⟩) rfl (by decide) (hC.2.1.hts _ _ wCl_L_13) (cs_xIA hC) hce hcv hcl ?_
  refine lv_astore (lv' := [(7, .ref q9), (0, .ref (ad 0 0)), (1, .int (nI h)), (2, .int (nI i)), (3, .int f), (4, .int u), (5, .int kd), (6, .ref out)]) hx hb dL_wouldWrong_23 hl (by decide) rfl (fun ls hl => ?_)
  refine lv_iconstN hx hb 2 dL_wouldWrong_25 (by decide) ?_
  refine W.widen (k := 1) (n := 6) (by omega) (by omega) ?_
  exact mu_iret (x := nI 2) hx hb hr hlocks hS ⟨hO, ⟨L, ly, ad, hX, rfl, fun q h => Or.inl h⟩⟩ rfl dL_wouldWrong_26
set_option maxHeartbeats 4000000 in
set_option maxRecDepth 100000 in
theorem mL_wouldFame_g (l : Launch) {E : En} {c : Cy} {ly : Ly} {L : List Nat} {ad : Nat → Nat → Nat} {H0 : Heap} (hX : PX E c ly L ad H0) {out : Nat} {w9 : Int64} (hO : oO E out w9 H0) (hoL : out ∉ L) (hob : bA E out) (h n : Nat) (hh : h < c.R 10 1) (hn : n ≤ 30) : LwI l yL_wouldFame cL_wouldFame 5 [(0, 10, 13, 24), (0, 10, 17, 13)] (rmk 5 0 0 111) [.ref (ad 0 0), .int (nI h), .int (nI n), .ref out] E H0 (nI 0) (oB H0.size E c L (ad 0 0) out ((wbfS c h n).toInt64)) (aO L out H0) 0 0 := by
  obtain ⟨hP, hly, hLb, wf⟩ := id hX
  have hlt : out < H0.size := (Array.getElem?_eq_some_iff.mp hO).1
  refine lw_of (by decide) (Nat.le_of_ble_eq_true rfl) ?_
  intro p e s m below meth co ls hx hb hr hml hown hlocks htab hC hNc hU hl
  have hS : va_S (aO L out H0) s.heap H0 [] := by rw [hU]; exact va_S.rf
  have hA : ∀ q, q ∈ L → aO L out H0 q := fun q h => Or.inl h
  have hN : ∀ q, s.heap.size ≤ q → aO L out H0 q := fun q h => Or.inr (Or.inr (by rw [← hU]; exact h))
  have hAb : ∀ q, aO L out H0 q → bA E q := fun q h => h.elim (hLb q) (fun h => h.elim (fun h => by rw [h]; exact hob) (fun z => Nat.le_trans hC.2.2.2.1 (by rw [hU]; exact z)))
  have hl : lv_has ls 5 [(0, .ref (ad 0 0)), (1, .int (nI h)), (2, .int (nI n)), (3, .ref out)] := hl
  refine lv_aload_n hx hb dL_wouldFame_0 rfl (lv_at hl 3 rfl) ?_
  refine lv_iconstN hx hb 0 dL_wouldFame_1 (by decide) ?_
  refine lv_aload_n hx hb dL_wouldFame_2 rfl (lv_at hl 0 rfl) ?_
  refine lv_iload_n hx hb dL_wouldFame_3 rfl (lv_at hl 1 rfl) ?_
  refine lv_iload_n hx hb dL_wouldFame_4 rfl (lv_at hl 2 rfl) ?_
  refine ro_V (As := [.int (nI h), .int (nI n)]) (h0 := ad 0 0) (rest := [.int (nI 0), .ref out]) (v := wbfS c h n) hx hb hml hown hC hS hAb (mX3_wouldFame_g l hX h n hh hn) kV_L_85 ⟨rfl, rfl⟩ ⟨Nat.le_of_ble_eq_true rfl, Nat.le_of_ble_eq_true rfl⟩ (hP.recv hC cX_0 rfl) rfl hl (Nat.le_of_ble_eq_true rfl) ⟨Nat.zero_le _, Nat.zero_le _⟩ dL_wouldFame_5 ?_
  have hoL2 := hoL
  refine lv_i2l (v := (wbfS c h n).toInt64) hx hb dL_wouldFame_8 rfl ?_
  refine lw_last hx hb hC hO hS (Or.inr (Or.inl rfl)) dL_wouldFame_9 (fun H locs hO hz1 hk1 hS => ?_)
  have hX := hX.kept (fun q _ h => hk1 q (fun z => hoL2 (by rw [← z]; exact h)))
  refine lv_goto (tgt := 21) hx hb dL_wouldFame_10 (by decide) ?_
  refine lv_iconstN hx hb 0 dL_wouldFame_21 (by decide) ?_
  refine W.widen (k := 0) (n := 0) (by omega) (by omega) ?_
  exact mu_iret (x := nI 0) hx hb hr hlocks hS ⟨hO, ⟨L, ly, ad, hX, rfl, fun q h => Or.inl h⟩⟩ rfl dL_wouldFame_22
set_option maxHeartbeats 4000000 in
set_option maxRecDepth 100000 in
theorem mL_wouldFame_b1 (l : Launch) (hst : l.stackTraces = false) {E : En} {c : Cy} {ly : Ly} {L : List Nat} {ad : Nat → Nat → Nat} {H0 : Heap} (hX : PX E c ly L ad H0) {out : Nat} {w9 : Int64} (hO : oO E out w9 H0) (hoL : out ∉ L) (hob : bA E out) (v n : Int32) (hv : isInS v (nI 0) (nI (c.R 10 1) - nI 1) = false) : LwI l yL_wouldFame cL_wouldFame 5 [(0, 10, 13, 24), (0, 10, 17, 13)] (rmk 8 1 6 137) [.ref (ad 0 0), .int v, .int n, .ref out] E H0 (nI 1) (oB H0.size E c L (ad 0 0) out w9) (aO L out H0) 1 6 := by
  obtain ⟨hP, hly, hLb, wf⟩ := id hX
  have hlt : out < H0.size := (Array.getElem?_eq_some_iff.mp hO).1
  refine lw_of (by decide) (Nat.le_of_ble_eq_true rfl) ?_
  intro p e s m below meth co ls hx hb hr hml hown hlocks htab hC hNc hU hl
  have hS : va_S (aO L out H0) s.heap H0 [] := by rw [hU]; exact va_S.rf
  have hA : ∀ q, q ∈ L → aO L out H0 q := fun q h => Or.inl h
  have hN : ∀ q, s.heap.size ≤ q → aO L out H0 q := fun q h => Or.inr (Or.inr (by rw [← hU]; exact h))
  have hAb : ∀ q, aO L out H0 q → bA E q := fun q h => h.elim (hLb q) (fun h => h.elim (fun h => by rw [h]; exact hob) (fun z => Nat.le_trans hC.2.2.2.1 (by rw [hU]; exact z)))
  have hl : lv_has ls 5 [(0, .ref (ad 0 0)), (1, .int v), (2, .int n), (3, .ref out)] := hl
  refine lv_aload_n hx hb dL_wouldFame_0 rfl (lv_at hl 3 rfl) ?_
  refine lv_iconstN hx hb 0 dL_wouldFame_1 (by decide) ?_
  refine lv_aload_n hx hb dL_wouldFame_2 rfl (lv_at hl 0 rfl) ?_
  refine lv_iload_n hx hb dL_wouldFame_3 rfl (lv_at hl 1 rfl) ?_
  refine lv_iload_n hx hb dL_wouldFame_4 rfl (lv_at hl 2 rfl) ?_
  refine lw_throw (As := [.int v, .int n]) (h0 := ad 0 0) (rest := [.int (nI 0), .ref out]) hx hb hml hown hC hU (mX3_wouldFame_b1 l hst hX v n hv) kV_L_85 ⟨Nat.le_of_ble_eq_true rfl, Nat.le_of_ble_eq_true rfl⟩ ⟨Nat.le_of_ble_eq_true rfl, Nat.le_of_ble_eq_true rfl⟩ (hP.recv hC cX_0 rfl) rfl hl (Nat.le_of_ble_eq_true rfl) dL_wouldFame_5 (fun q9 ce H hS2 hce hcv hcl => ?_)
  have hS : va_S (aO L out H0) s.heap H [] := by rw [hU]; exact ⟨hS2.1, fun q h1 _ => hS2.2.1 q h1 (fun z => z), fun _ h => absurd h List.not_mem_nil⟩
  have hX := hX.kept (fun q h1 _ => hS2.2.1 q h1 (fun z => z))
  have hO : oO E out w9 H := (hS2.2.1 out hlt (fun z => z)).trans hO
  refine vx_catch hown (tableOf []) ⟨0, 10, 13, 24⟩ (tableOf [(0, 10, 17, 13)]) (htab.trans rfl) (fun z hz => absurd hz List.not_mem_nil) rfl (by decide) (hC.2.1.hts _ _ wCl_L_24) (cs_xIO hC) hce hcv hcl ?_
  refine lv_astore (lv' := [(4, .ref q9), (0, .ref (ad 0 0)), (1, .int v), (2, .int n), (3, .ref out)]) hx hb dL_wouldFame_13 hl (by decide) rfl (fun ls hl => ?_)
  refine lv_iconstN hx hb 1 dL_wouldFame_15 (by decide) ?_
  refine W.widen (k := 1) (n := 6) (by omega) (by omega) ?_
  exact mu_iret (x := nI 1) hx hb hr hlocks hS ⟨hO, ⟨L, ly, ad, hX, rfl, fun q h => Or.inl h⟩⟩ rfl dL_wouldFame_16
set_option maxHeartbeats 4000000 in
set_option maxRecDepth 100000 in
theorem mL_wouldFame_b2 (l : Launch) (hst : l.stackTraces = false) {E : En} {c : Cy} {ly : Ly} {L : List Nat} {ad : Nat → Nat → Nat} {H0 : Heap} (hX : PX E c ly L ad H0) {out : Nat} {w9 : Int64} (hO : oO E out w9 H0) (hoL : out ∉ L) (hob : bA E out) (h : Nat) (n : Int32) (hh : h < c.R 10 1) (hn : isInS n (nI 0) (nI 30) = false) : LwI l yL_wouldFame cL_wouldFame 5 [(0, 10, 13, 24), (0, 10, 17, 13)] (rmk 7 1 6 116) [.ref (ad 0 0), .int (nI h), .int n, .ref out] E H0 (nI 2) (oB H0.size E c L (ad 0 0) out w9) (aO L out H0) 1 6 := by
  obtain ⟨hP, hly, hLb, wf⟩ := id hX
  have hlt : out < H0.size := (Array.getElem?_eq_some_iff.mp hO).1
  refine lw_of (by decide) (Nat.le_of_ble_eq_true rfl) ?_
  intro p e s m below meth co ls hx hb hr hml hown hlocks htab hC hNc hU hl
  have hS : va_S (aO L out H0) s.heap H0 [] := by rw [hU]; exact va_S.rf
  have hA : ∀ q, q ∈ L → aO L out H0 q := fun q h => Or.inl h
  have hN : ∀ q, s.heap.size ≤ q → aO L out H0 q := fun q h => Or.inr (Or.inr (by rw [← hU]; exact h))
  have hAb : ∀ q, aO L out H0 q → bA E q := fun q h => h.elim (hLb q) (fun h => h.elim (fun h => by rw [h]; exact hob) (fun z => Nat.le_trans hC.2.2.2.1 (by rw [hU]; exact z)))
  have hl : lv_has ls 5 [(0, .ref (ad 0 0)), (1, .int (nI h)), (2, .int n), (3, .ref out)] := hl
  refine lv_aload_n hx hb dL_wouldFame_0 rfl (lv_at hl 3 rfl) ?_
  refine lv_iconstN hx hb 0 dL_wouldFame_1 (by decide) ?_
  refine lv_aload_n hx hb dL_wouldFame_2 rfl (lv_at hl 0 rfl) ?_
  refine lv_iload_n hx hb dL_wouldFame_3 rfl (lv_at hl 1 rfl) ?_
  refine lv_iload_n hx hb dL_wouldFame_4 rfl (lv_at hl 2 rfl) ?_
  refine lw_throw (As := [.int (nI h), .int n]) (h0 := ad 0 0) (rest := [.int (nI 0), .ref out]) hx hb hml hown hC hU (mX3_wouldFame_b2 l hst hX h n hh hn) kV_L_85 ⟨Nat.le_of_ble_eq_true rfl, Nat.le_of_ble_eq_true rfl⟩ ⟨Nat.le_of_ble_eq_true rfl, Nat.le_of_ble_eq_true rfl⟩ (hP.recv hC cX_0 rfl) rfl hl (Nat.le_of_ble_eq_true rfl) dL_wouldFame_5 (fun q9 ce H hS2 hce hcv hcl => ?_)
  have hS : va_S (aO L out H0) s.heap H [] := by rw [hU]; exact ⟨hS2.1, fun q h1 _ => hS2.2.1 q h1 (fun z => z), fun _ h => absurd h List.not_mem_nil⟩
  have hX := hX.kept (fun q h1 _ => hS2.2.1 q h1 (fun z => z))
  have hO : oO E out w9 H := (hS2.2.1 out hlt (fun z => z)).trans hO
  refine vx_catch hown (tableOf [(0, 10, 13, 24)]) ⟨0, 10, 17, 13⟩ (tableOf []) (htab.trans rfl) (fun z hz => by rw [List.mem_singleton.mp hz]; exact Or.inr ⟨by decide, xIO, hC.2.1.hts _ _ wCl_L_24, hNc.1⟩) rfl (by decide) (hC.2.1.hts _ _ wCl_L_13) (cs_xIA hC) hce hcv hcl ?_
  refine lv_astore (lv' := [(4, .ref q9), (0, .ref (ad 0 0)), (1, .int (nI h)), (2, .int n), (3, .ref out)]) hx hb dL_wouldFame_17 hl (by decide) rfl (fun ls hl => ?_)
  refine lv_iconstN hx hb 2 dL_wouldFame_19 (by decide) ?_
  refine W.widen (k := 1) (n := 6) (by omega) (by omega) ?_
  exact mu_iret (x := nI 2) hx hb hr hlocks hS ⟨hO, ⟨L, ly, ad, hX, rfl, fun q h => Or.inl h⟩⟩ rfl dL_wouldFame_20
