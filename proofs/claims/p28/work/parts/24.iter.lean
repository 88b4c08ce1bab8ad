/-! iterators over the lists; methods that make new cells and otherwise read -/
abbrev gA (H : Heap) : Nat → Prop := fun q => H.size ≤ q
abbrev QvR (H : Heap) : Array Value → State → Outcome → State → Prop := va_Qv (fun (_ : Unit) => True) (fun _ t => t.heap = H) noA
abbrev RoV (l : Launch) (y : MethodName) (b : ByteArray) (n : Nat) (rm : Room) (av : List Value) (E : En) (H : Heap) : Prop := Met l y [.code y b n none] rm (PcR av E H) (QvR H) 0 0 noA
abbrev QiM (v : Int32) (B : Heap → Prop) (A1 : Nat → Prop) : Array Value → State → Outcome → State → Prop := va_Qi (fun (r : Int32) (_ : Unit) => r = v) (fun _ t => B t.heap) A1
abbrev QvM (B : Heap → Prop) (A1 : Nat → Prop) : Array Value → State → Outcome → State → Prop := va_Qv (fun (_ : Unit) => True) (fun _ t => B t.heap) A1
abbrev QrM (B : Nat → Heap → Prop) (A1 : Nat → Prop) : Array Value → State → Outcome → State → Prop := va_Qr (fun (_ : Unit) => True) (fun _ a t => B a t.heap) A1
abbrev MuI (l : Launch) (y : MethodName) (b : ByteArray) (n : Nat) (ret : FieldType) (rm : Room) (av : List Value) (E : En) (H : Heap) (v : Int32) (B : Heap → Prop) (A1 : Nat → Prop) (mc ms : Nat) : Prop := Met l y [.code y b n (some ret)] rm (PcR av E H) (QiM v B A1) mc ms A1
abbrev MuV (l : Launch) (y : MethodName) (b : ByteArray) (n : Nat) (rm : Room) (av : List Value) (E : En) (H : Heap) (B : Heap → Prop) (A1 : Nat → Prop) (mc ms : Nat) : Prop := Met l y [.code y b n none] rm (PcR av E H) (QvM B A1) mc ms A1
abbrev MuR (l : Launch) (y : MethodName) (b : ByteArray) (n : Nat) (ret : FieldType) (rm : Room) (av : List Value) (E : En) (H : Heap) (B : Nat → Heap → Prop) (A1 : Nat → Prop) (mc ms : Nat) : Prop := Met l y [.code y b n (some ret)] rm (PcR av E H) (QrM B A1) mc ms A1
/-- a method that makes cells and writes only there -/
abbrev GrI (l : Launch) (y : MethodName) (b : ByteArray) (n : Nat) (ret : FieldType) (rm : Room) (av : List Value) (E : En) (H : Heap) (v : Int32) (mc ms : Nat) : Prop := MuI l y b n ret rm av E H v (fun _ => True) (gA H) mc ms
/-- an iterator's cell -/
def itc (cur : Nat) (last md : Int32) (la : Nat) : Nat → Nat → Option va_E := fun k i => if k = 0 ∧ i = 0 then some (.inr (0, [.int (nI cur), .int last, .int md, .ref la])) else none
theorem itc_0 {cur : Nat} {last md : Int32} {la : Nat} : itc cur last md la 0 0 = some (.inr (0, [.int (nI cur), .int last, .int md, .ref la])) := rfl
theorem PI.viaS {D : va_G} {L : List Nat} {ct : Nat → Nat → Option va_E} {ad : Nat → Nat → Nat} {H0 H : Heap} {A : Nat → Prop} {locs : List Loc} (h : PI D L ct ad H0) (hS : va_S A H0 H locs) (hd : ∀ z ∈ L, ¬ A z) : PI D L ct ad H := h.kept fun q hq hL => hS.2.1 q hq (hd q hL)
theorem PI.it {D : va_G} {q : Nat} {e : va_E} {H : Heap} (h : va_P D vwCl [(q, e)] H) : PI D [q] (fun k i => if k = 0 ∧ i = 0 then some e else none) (fun _ _ => q) H := by
  refine ⟨fun _ => e, h, ⟨fun i j p q' hi hj _ => ?_, fun k z hz => ?_⟩, fun k i x hx => ?_, fun k i k' i' x x' hx hx' _ => ?_⟩
  · have e1 : i = 0 := by
      cases i with
      | zero => rfl
      | succ n => simp [va_pl] at hi
    have e2 : j = 0 := by
      cases j with
      | zero => rfl
      | succ n => simp [va_pl] at hj
    rw [e1, e2]
  · cases k with
    | zero =>
      have : (q, e) = z := Option.some.inj hz
      rw [← this]; exact List.mem_singleton.mpr rfl
    | succ n => simp [va_pl] at hz
  · have hx : (if k = 0 ∧ i = 0 then some e else none) = some x := hx
    split at hx
    · exact ⟨List.mem_singleton.mpr rfl, Option.some.inj hx⟩
    · cases hx
  · have hx : (if k = 0 ∧ i = 0 then some e else none) = some x := hx
    have hx' : (if k' = 0 ∧ i' = 0 then some e else none) = some x' := hx'
    split at hx
    · rename_i c1
      split at hx'
      · rename_i c2
        exact ⟨c1.1.trans c2.1.symm, c1.2.trans c2.2.symm⟩
      · cases hx'
    · cases hx
section ITA
variable {p : Program} {l : Launch} {e : Env} {R : Room} {s : State} {m : MethodId} {args : Array Value} {below : List Frame} {meth : Method} {c : Code} {H H0 : Heap} {locs : List Loc} {cells slots : Nat} {Q : State → Prop}
variable {cc : ByteArray} {pc nL : Nat} {ls : Array Slot} {rest : List Value} {E : En} {L : List Nat} {ct : Nat → Nat → Option va_E} {ad : Nat → Nat → Nat} {A : Nat → Prop}
variable {y : MethodName} {b : ByteArray} {maxL n index : Nat} {rt : FieldType} {rm : Room} {own C : String}
/-- modCount, declared above -/
theorem pi_getM (hx : p.tables.exec = Jvm.exec) (hb : c.code = cc) (hC : Cs E s) (hown : s.vm.findClass own = some m.cls) (hX : PI E.1 L ct ad H) (hl : .fieldLink own index "java/util/ArrayList" "modCount" "I" ∈ WG) (k i : Nat) {md : Int32} {v2 v3 : Value} (he : ct k i = some (.inr (1, [.int md, v2, v3]))) (hdg : decode cc pc = .ok (.getfield index, 3))
    (kk : W p l e R s m args below meth c H locs cells slots Q (F0 m (pc + 3) ls (.int md :: rest))) : W p l e R s m args below meth c H locs cells slots Q (F0 m pc ls (.ref (ad k i) :: rest)) :=
  va_get (D := E.1) (cl := vwCl) (C := RJx4a65c) (T := TJx4a65c) (N := 3) (ref := "java/util/ArrayList") hx hb (hC.2.1.hts args) wU_Jx4a65c hown hC.1 (hX.one he) 0 rfl rfl 0 (by decide) (hC.2.1.hts args _ hl) (fun x h9 => u_same (hC.2.1.hts args _ wSame) x h9) rfl hdg kk
/-- size, a nest mate's -/
theorem ro_VV {As : List Value} {h0 : Nat} {nn : Nat} (hx : p.tables.exec = Jvm.exec) (hb : c.code = cc) (hml : c.maxLocals = nL) (hown : s.vm.findClass own = some m.cls) (hC : Cs E s) (hS : va_S A s.heap H locs) (hAb : ∀ q, A q → bA E q)
    (hM : RoV l y b maxL rm (.ref h0 :: As) E H) (hK : KV own index C y b maxL none nn) (hrm : rm.cells = 0 ∧ rm.slots = 0) (hR : rm.frames + 1 ≤ R.frames ∧ 8 + (maxL + 11) + rm.locals ≤ R.locals) (hrecv : ∃ cellB : Cell, H[h0]? = some cellB ∧ cellB.vm.isStatics = false ∧ s.vm.findClass C = some cellB.cls) (hn : As.length = nn) {lv : List (Nat × Value)} (hl : lv_has ls nL lv) (hr8 : (rest.map fun v => v.category).sum ≤ 8) (hc0 : cells ≤ R.cells ∧ slots ≤ R.slots) (hdg : decode cc pc = .ok (.invokevirtual index, 3))
    (kk : W p l e R s m args below meth c H locs cells slots Q (F0 m (pc + 3) ls rest)) : W p l e R s m args below meth c H locs cells slots Q (F0 m pc ls (As.reverse ++ .ref h0 :: rest)) := by
  have hts := hC.2.1.hts args
  refine run_ro (mc := 0) (ms := 0) (a := (Value.ref h0 :: As).toArray) (va_runV (As := As) (rest := rest) ⟨hx, hb, hml, hown, hts⟩ hM (cwV nn hts hK.1 rfl hrm.1 hrm.2 hK.2 hR) ⟨PcR.blind, hrecv, fun U hU hW => ⟨rfl, hU, hC.go hW hU hS hAb⟩⟩ rfl hn hl.1 rfl (lv_room hr8) hdg hc0) ?_
  intro w st₀ t h1 _ hq
  obtain ⟨⟨u, h2, h3, h4⟩, -⟩ := hq
  cases h2
  exact ⟨h4, kk⟩
theorem ro_vret (hx : p.tables.exec = Jvm.exec) (hb : c.code = cc) (hr : meth.sig.returnType = none) (hlocks : meth.locks = false) (hH : s.heap = H) (hdg : decode cc pc = .ok (.return_, 1)) : W p l e R s m args below meth c H [] 0 0 (MQ below (QvR H) args s 0 0 noA) (F0 m pc ls []) :=
  W.vret hx hb hr (fun t ht hW => ⟨⟨(), rfl, trivial, ht⟩, (va_S.rf (A := noA) (H0 := s.heap)).F (ht.trans hH.symm)⟩) (fun q hq => absurd hq List.not_mem_nil) hdg
/-- a method that writes: its cells A1, what it leaves B -/
theorem mu_V {As : List Value} {h0 : Nat} {v : Int32} {nn mc ms : Nat} {B : Heap → Prop} {A1 : Nat → Prop} (hx : p.tables.exec = Jvm.exec) (hb : c.code = cc) (hml : c.maxLocals = nL) (hown : s.vm.findClass own = some m.cls) (hC : Cs E s) (hS : va_S A s.heap H locs) (hAb : ∀ q, A q → bA E q)
    (hM : MuI l y b maxL rt rm (.ref h0 :: As) E H v B A1 mc ms) (hA1 : ∀ q, A1 q → A q) (hK : KV own index C y b maxL (some rt) nn) (hrm : rm.cells = mc ∧ rm.slots = ms) (hR : rm.frames + 1 ≤ R.frames ∧ 8 + (maxL + 11) + rm.locals ≤ R.locals) (hrecv : ∃ cellB : Cell, H[h0]? = some cellB ∧ cellB.vm.isStatics = false ∧ s.vm.findClass C = some cellB.cls) (hn : As.length = nn) {lv : List (Nat × Value)} (hl : lv_has ls nL lv) (hr8 : (rest.map fun v => v.category).sum ≤ 8) (hc0 : cells + mc ≤ R.cells ∧ slots + ms ≤ R.slots) (hdg : decode cc pc = .ok (.invokevirtual index, 3))
    (kk : ∀ (H1 : Heap) (locs1 : List Loc), B H1 → va_S A s.heap H1 locs1 → H.size ≤ H1.size → (∀ q, q < H.size → ¬ A1 q → H1[q]? = H[q]?) → W p l e R s m args below meth c H1 locs1 (cells + mc) (slots + ms) Q (F0 m (pc + 3) ls (.int v :: rest))) : W p l e R s m args below meth c H locs cells slots Q (F0 m pc ls (As.reverse ++ .ref h0 :: rest)) := by
  have hts := hC.2.1.hts args
  refine va_calli (va_runV (As := As) (rest := rest) ⟨hx, hb, hml, hown, hts⟩ hM (cwV nn hts hK.1 rfl hrm.1 hrm.2 hK.2 hR) ⟨PcR.blind, hrecv, fun U hU hW => ⟨rfl, hU, hC.go hW hU hS hAb⟩⟩ rfl hn hl.1 rfl (lv_room hr8) hdg hc0) hS (fun q _ h => hA1 q h) hA1 (fun r u t H1 locs1 ht hvm hw hB hz hk hS1 => ?_)
  subst hw
  rw [ht] at hB
  exact kk H1 locs1 hB hS1 hz hk
theorem mu_VV {As : List Value} {h0 : Nat} {nn mc ms : Nat} {B : Heap → Prop} {A1 : Nat → Prop} (hx : p.tables.exec = Jvm.exec) (hb : c.code = cc) (hml : c.maxLocals = nL) (hown : s.vm.findClass own = some m.cls) (hC : Cs E s) (hS : va_S A s.heap H locs) (hAb : ∀ q, A q → bA E q)
    (hM : MuV l y b maxL rm (.ref h0 :: As) E H B A1 mc ms) (hA1 : ∀ q, A1 q → A q) (hK : KV own index C y b maxL none nn) (hrm : rm.cells = mc ∧ rm.slots = ms) (hR : rm.frames + 1 ≤ R.frames ∧ 8 + (maxL + 11) + rm.locals ≤ R.locals) (hrecv : ∃ cellB : Cell, H[h0]? = some cellB ∧ cellB.vm.isStatics = false ∧ s.vm.findClass C = some cellB.cls) (hn : As.length = nn) {lv : List (Nat × Value)} (hl : lv_has ls nL lv) (hr8 : (rest.map fun v => v.category).sum ≤ 8) (hc0 : cells + mc ≤ R.cells ∧ slots + ms ≤ R.slots) (hdg : decode cc pc = .ok (.invokevirtual index, 3))
    (kk : ∀ (H1 : Heap) (locs1 : List Loc), B H1 → va_S A s.heap H1 locs1 → H.size ≤ H1.size → (∀ q, q < H.size → ¬ A1 q → H1[q]? = H[q]?) → W p l e R s m args below meth c H1 locs1 (cells + mc) (slots + ms) Q (F0 m (pc + 3) ls rest)) : W p l e R s m args below meth c H locs cells slots Q (F0 m pc ls (As.reverse ++ .ref h0 :: rest)) := by
  have hts := hC.2.1.hts args
  refine va_callv (va_runV (As := As) (rest := rest) ⟨hx, hb, hml, hown, hts⟩ hM (cwV nn hts hK.1 rfl hrm.1 hrm.2 hK.2 hR) ⟨PcR.blind, hrecv, fun U hU hW => ⟨rfl, hU, hC.go hW hU hS hAb⟩⟩ rfl hn hl.1 rfl (lv_room hr8) hdg hc0) hS (fun q _ h => hA1 q h) hA1 (fun u t H1 locs1 ht hvm hw hB hz hk hS1 => ?_)
  rw [ht] at hB
  exact kk H1 locs1 hB hS1 hz hk
theorem mu_VR {As : List Value} {h0 : Nat} {nn mc ms : Nat} {B : Nat → Heap → Prop} {A1 : Nat → Prop} (hx : p.tables.exec = Jvm.exec) (hb : c.code = cc) (hml : c.maxLocals = nL) (hown : s.vm.findClass own = some m.cls) (hC : Cs E s) (hS : va_S A s.heap H locs) (hAb : ∀ q, A q → bA E q)
    (hM : MuR l y b maxL rt rm (.ref h0 :: As) E H B A1 mc ms) (hA1 : ∀ q, A1 q → A q) (hK : KV own index C y b maxL (some rt) nn) (hrm : rm.cells = mc ∧ rm.slots = ms) (hR : rm.frames + 1 ≤ R.frames ∧ 8 + (maxL + 11) + rm.locals ≤ R.locals) (hrecv : ∃ cellB : Cell, H[h0]? = some cellB ∧ cellB.vm.isStatics = false ∧ s.vm.findClass C = some cellB.cls) (hn : As.length = nn) {lv : List (Nat × Value)} (hl : lv_has ls nL lv) (hr8 : (rest.map fun v => v.category).sum ≤ 8) (hc0 : cells + mc ≤ R.cells ∧ slots + ms ≤ R.slots) (hdg : decode cc pc = .ok (.invokevirtual index, 3))
    (kk : ∀ (ra : Nat) (H1 : Heap) (locs1 : List Loc), B ra H1 → va_S A s.heap H1 locs1 → H.size ≤ H1.size → (∀ q, q < H.size → ¬ A1 q → H1[q]? = H[q]?) → W p l e R s m args below meth c H1 locs1 (cells + mc) (slots + ms) Q (F0 m (pc + 3) ls (.ref ra :: rest))) : W p l e R s m args below meth c H locs cells slots Q (F0 m pc ls (As.reverse ++ .ref h0 :: rest)) := by
  have hts := hC.2.1.hts args
  refine va_callr (va_runV (As := As) (rest := rest) ⟨hx, hb, hml, hown, hts⟩ hM (cwV nn hts hK.1 rfl hrm.1 hrm.2 hK.2 hR) ⟨PcR.blind, hrecv, fun U hU hW => ⟨rfl, hU, hC.go hW hU hS hAb⟩⟩ rfl hn hl.1 rfl (lv_room hr8) hdg hc0) hS (fun q _ h => hA1 q h) hA1 (fun u ra t H1 locs1 ht hvm hw hB hz hk hS1 => ?_)
  rw [ht] at hB
  exact kk ra H1 locs1 hB hS1 hz hk
/-- a constructor -/
theorem mu_I {As : List Value} {h0 : Nat} {nn mc ms : Nat} {B : Heap → Prop} {A1 : Nat → Prop} (hx : p.tables.exec = Jvm.exec) (hb : c.code = cc) (hml : c.maxLocals = nL) (hown : s.vm.findClass own = some m.cls) (hC : Cs E s) (hS : va_S A s.heap H locs) (hAb : ∀ q, A q → bA E q)
    (hM : MuV l y b maxL rm (.ref h0 :: As) E H B A1 mc ms) (hA1 : ∀ q, A1 q → A q) (hK : KI own index y b maxL nn) (hrm : rm.cells = mc ∧ rm.slots = ms) (hR : rm.frames + 1 ≤ R.frames ∧ 8 + (maxL + 11) + rm.locals ≤ R.locals) (hn : As.length = nn) {lv : List (Nat × Value)} (hl : lv_has ls nL lv) (hr8 : (rest.map fun v => v.category).sum ≤ 8) (hc0 : cells + mc ≤ R.cells ∧ slots + ms ≤ R.slots) (hdg : decode cc pc = .ok (.invokespecial index, 3))
    (kk : ∀ (H1 : Heap) (locs1 : List Loc), B H1 → va_S A s.heap H1 locs1 → H.size ≤ H1.size → (∀ q, q < H.size → ¬ A1 q → H1[q]? = H[q]?) → W p l e R s m args below meth c H1 locs1 (cells + mc) (slots + ms) Q (F0 m (pc + 3) ls rest)) : W p l e R s m args below meth c H locs cells slots Q (F0 m pc ls (As.reverse ++ .ref h0 :: rest)) := by
  have hts := hC.2.1.hts args
  refine va_callv (va_runI (As := As) (rest := rest) ⟨hx, hb, hml, hown, hts⟩ hM (cwI nn hts hK.1 rfl hrm.1 hrm.2 (hts _ hK.2.1) (hts _ hK.2.2.1) (hts _ hK.2.2.2.1) hK.2.2.2.2.1 hK.2.2.2.2.2 hR) ⟨PcR.blind, fun U hU hW => ⟨rfl, hU, hC.go hW hU hS hAb⟩⟩ rfl hn hl.1 rfl (lv_room hr8) hdg hc0) hS (fun q _ h => hA1 q h) hA1 (fun u t H1 locs1 ht hvm hw hB hz hk hS1 => ?_)
  rw [ht] at hB
  exact kk H1 locs1 hB hS1 hz hk
theorem mu_iret {v x : Int32} {mc ms : Nat} {B : Heap → Prop} {A1 : Nat → Prop} (hx : p.tables.exec = Jvm.exec) (hb : c.code = cc) (hr : meth.sig.returnType = some .int) (hlocks : meth.locks = false) (hS : va_S A1 s.heap H locs) (hB : B H) (hv : x = v) (hdg : decode cc pc = .ok (.ireturn, 1)) : W p l e R s m args below meth c H locs mc ms (MQ below (QiM v B A1) args s mc ms A1) (F0 m pc ls [.int x]) := by
  subst hv
  exact W.iret hx hb hr (fun t ht hW => ⟨⟨x, (), rfl, rfl, by show B t.heap; rw [ht]; exact hB⟩, hS.F ht⟩) hS.2.2 hdg
theorem mu_zretB {x : Int32} {b1 b2 : Bool} {mc ms : Nat} {B : Heap → Prop} {A1 : Nat → Prop} (hx : p.tables.exec = Jvm.exec) (hb : c.code = cc) (hr : meth.sig.returnType = some .boolean) (hlocks : meth.locks = false) (hS : va_S A1 s.heap H locs) (hB : B H) (h1 : x = bI b1) (hv : b1 = b2) (hdg : decode cc pc = .ok (.ireturn, 1)) : W p l e R s m args below meth c H locs mc ms (MQ below (QiM (bI b2) B A1) args s mc ms A1) (F0 m pc ls [.int x]) := by
  subst h1; subst hv
  exact W.zret hx hb hr (bI_nar b1) (fun t ht hW => ⟨⟨_, (), rfl, rfl, by show B t.heap; rw [ht]; exact hB⟩, hS.F ht⟩) hS.2.2 hdg
theorem mu_vret {mc ms : Nat} {B : Heap → Prop} {A1 : Nat → Prop} (hx : p.tables.exec = Jvm.exec) (hb : c.code = cc) (hr : meth.sig.returnType = none) (hlocks : meth.locks = false) (hS : va_S A1 s.heap H locs) (hB : B H) (hdg : decode cc pc = .ok (.return_, 1)) : W p l e R s m args below meth c H locs mc ms (MQ below (QvM B A1) args s mc ms A1) (F0 m pc ls []) :=
  W.vret hx hb hr (fun t ht hW => ⟨⟨(), rfl, trivial, by show B t.heap; rw [ht]; exact hB⟩, hS.F ht⟩) hS.2.2 hdg
theorem mu_aret {x : Nat} {nm : String} {mc ms : Nat} {B : Nat → Heap → Prop} {A1 : Nat → Prop} (hx : p.tables.exec = Jvm.exec) (hb : c.code = cc) (hr : meth.sig.returnType = some (.object nm)) (hlocks : meth.locks = false) (hS : va_S A1 s.heap H locs) (hB : B x H) (hdg : decode cc pc = .ok (.areturn, 1)) : W p l e R s m args below meth c H locs mc ms (MQ below (QrM B A1) args s mc ms A1) (F0 m pc ls [.ref x]) :=
  W.aret hx hb hr (Or.inl ⟨_, rfl⟩) (Or.inr ⟨x, rfl⟩) (fun t ht hW => ⟨⟨(), x, rfl, trivial, by show B x t.heap; rw [ht]; exact hB⟩, hS.F ht⟩) hS.2.2 hdg
/-- a final field, in the constructor -/
theorem pi_putF {ref : String} {ci n N : Nat} {T : u_T} {ty : FieldType} (hx : p.tables.exec = Jvm.exec) (hb : c.code = cc) (hC : Cs E s) (hown : s.vm.findClass own = some m.cls) (hin : meth.name = "<init>") (hX : PI E.1 L ct ad H) (hS : va_S A H0 H locs) (hA : ∀ q, q ∈ L → A q) (hf : FF own ref index ci C T N n ty) (k i : Nat) {fs : List Value} (he : ct k i = some (.inr (ci, fs))) {v : Value} (hn : narrow ty v = v) (hfit : fits ty v = true) (hl : n < fs.length) (hdg : decode cc pc = .ok (.putfield index, 3))
    (kk : ∀ (H1 : Heap) (locs1 : List Loc), PI E.1 L (ctu ct k i (.inr (ci, fs.set n v))) ad H1 → va_S A H0 H1 locs1 → W p l e R s m args below meth c H1 locs1 cells slots Q (F0 m (pc + 3) ls rest)) : W p l e R s m args below meth c H locs cells slots Q (F0 m pc ls (v :: .ref (ad k i) :: rest)) := by
  obtain ⟨⟨h1, h2, h3, h4, h5⟩, ⟨ty0, h6⟩, h7, h8, h8b, h9⟩ := hf
  obtain ⟨f, hP, hD, hm, hi⟩ := hX
  obtain ⟨g1, g2⟩ := hm k i _ he
  obtain ⟨j, hj⟩ := va_pl_get (X := []) (f := f) g1
  rw [List.nil_append] at hj
  refine va_putF (D := E.1) (cl := vwCl) (A := A) hx hb (hC.2.1.hts args) h3 ty0 h6 h7 hown hC.1 hP (hD.weaken fun _ q _ h => hA q.1 h) hS j (fs := fs) (by rw [hj, g2]) h1 n h2 (hC.2.1.hts args _ h4) (fun x q => by rw [← h5]; exact q) h8 hin h8b h9 hn hfit hl hdg fun H1 locs1 hP1 _ hS1 => ?_
  exact kk H1 locs1 (PI.setAt hD hm hi he hj hP1) hS1
end ITA

