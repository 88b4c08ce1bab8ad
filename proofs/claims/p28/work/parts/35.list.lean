/-! lists that grow -/
/-- a class of the tables is an Object -/
def CO (C : String) : Prop := ∀ s : State, Wd s → va_Nw (.castable C "java/lang/Object") s
section LSA
variable {p : Program} {l : Launch} {e : Env} {R : Room} {s : State} {m : MethodId} {args : Array Value} {below : List Frame} {meth : Method} {c : Code} {H H0 : Heap} {locs : List Loc} {cells slots : Nat} {Q : State → Prop}
variable {cc : ByteArray} {pc nL : Nat} {ls : Array Slot} {rest : List Value} {E : En} {L : List Nat} {ct : Nat → Nat → Option va_E} {ad : Nat → Nat → Nat} {A : Nat → Prop}
theorem fc_Oa (hC : Cs E s) : s.vm.findClass "[Ljava/lang/Object;" = some (E.2 3) := by
  obtain ⟨_, _, _, _, _, h4⟩ := (hC.1.2 2 (E.2 3, .object "java/lang/Object") rfl).2
  exact h4
theorem wMlC : .methodLink RJ7 150 arraycopyName ∈ WG := wg_t 266 (by decide +kernel) (by decide +kernel)
theorem wStC : .static arraycopyName ∈ WG := wg_t 267 (by decide +kernel) (by decide +kernel)
theorem pi_castA (hx : p.tables.exec = Jvm.exec) (hb : c.code = cc) {own : String} {index : Nat} (hC : Cs E s) (hown : s.vm.findClass own = some m.cls) (hX : PI E.1 L ct ad H) (k i : Nat) {x : vp_A} (he : ct k i = some (.inl (E.2 3, x))) (hcl : .classLink own index "[Ljava/lang/Object;" ∈ WG) (hdg : decode cc pc = .ok (.checkcast index, 3))
    (kk : W p l e R s m args below meth c H locs cells slots Q (F0 m (pc + 3) ls (.ref (ad k i) :: rest))) : W p l e R s m args below meth c H locs cells slots Q (F0 m pc ls (.ref (ad k i) :: rest)) :=
  va_castA (D := E.1) (cl := vwCl) hx hb hown (hC.2.1.hts args _ hcl) (hX.one he) 0 rfl (fc_Oa hC) hdg kk
/-- an object into an Object[] -/
theorem pi_rastO (hx : p.tables.exec = Jvm.exec) (hb : c.code = cc) (hC : Cs E s) (hX : PI E.1 L ct ad H) (hS : va_S A H0 H locs) (hA : ∀ q, q ∈ L → A q) (k i : Nat) {r : vw_C} {n : Nat} {f : Nat → Option Nat} (he : ct k i = some (.inl (E.2 3, n, .inr (.inr (.inr (.inr f)))))) (k2 i2 : Nat) {ci : Nat} {vs : List Value} (he2 : ct k2 i2 = some (.inr (ci, vs))) (hc : vwCl[ci]? = some r) (hca : CO r.1) {j : Nat} (hj : j < n) (hn : n < 2 ^ 31) (hdg : decode cc pc = .ok (.aastore, 1))
    (kk : ∀ (H1 : Heap) (locs1 : List Loc), PI E.1 L (ctu ct k i (.inl (E.2 3, n, .inr (.inr (.inr (.inr (va_up f j (some (ad k2 i2))))))))) ad H1 → va_S A H0 H1 locs1 → W p l e R s m args below meth c H1 locs1 cells slots Q (F0 m (pc + 1) ls rest)) : W p l e R s m args below meth c H locs cells slots Q (F0 m pc ls (.ref (ad k2 i2) :: .int (nI j) :: .ref (ad k i) :: rest)) := by
  obtain ⟨f1, hP, hD, hm, hi⟩ := hX
  obtain ⟨g1, g2⟩ := hm k i _ he
  obtain ⟨g3, g4⟩ := hm k2 i2 _ he2
  obtain ⟨q, hq⟩ := va_pl_get (X := []) (f := f1) g1
  obtain ⟨q2, hq2⟩ := va_pl_get (X := []) (f := f1) g3
  rw [List.nil_append] at hq hq2
  refine va_astqO (D := E.1) (cl := vwCl) (A := A) hx hb hC.1 hP (hD.weaken fun _ q _ h => hA q.1 h) hS q 2 q2 ci (E := "java/lang/Object") (cA := E.2 3) (r := r) (n := n) (v := ad k2 i2) (vs := vs) (f := f) (by rw [hq, g2]) rfl (hca s hC.2.1) (by rw [hq2, g4]) hc (vp_in_nI hj hn) hdg fun H1 locs1 hP1 _ hS1 => ?_
  rw [nI_clamp (Nat.lt_trans hj hn)] at hP1
  exact kk H1 locs1 (PI.setAt hD hm hi he hq hP1) hS1
/-- System.arraycopy from the start of one Object[] to the start of another -/
theorem pi_copyq (hx : p.tables.exec = Jvm.exec) (hb : c.code = cc) (hml : c.maxLocals = ls.size) (hC : Cs E s) (hown : s.vm.findClass RJ7 = some m.cls) (hX : PI E.1 L ct ad H) (hS : va_S A H0 H locs) (hA : ∀ q, q ∈ L → A q) (k i k2 i2 : Nat) {n0 n1 n : Nat} {f g : Nat → Option Nat} (he : ct k i = some (.inl (E.2 3, n0, .inr (.inr (.inr (.inr f)))))) (he2 : ct k2 i2 = some (.inl (E.2 3, n1, .inr (.inr (.inr (.inr g)))))) (h0 : n ≤ n0) (h1 : n ≤ n1) (hn : n < 1000) {C : String} (hca : CO C) (hel : ∀ j y, f j = some y → ∃ cellV : Cell, H[y]? = some cellV ∧ cellV.vm.isStatics = false ∧ s.vm.findClass C = some cellV.cls) (hR : 1 ≤ R.frames ∧ (rest.map fun v => v.category).sum + (nativeFrameWords "java/lang/System" "arraycopy" 5 + 11) ≤ R.locals) (hdg : decode cc pc = .ok (.invokestatic 150, 3))
    (kk : ∀ (H1 : Heap) (locs1 : List Loc), PI E.1 L (ctu ct k2 i2 (.inl (E.2 3, n1, .inr (.inr (.inr (.inr (va_cpy f g 0 0 n))))))) ad H1 → va_S A H0 H1 locs1 → W p l e R s m args below meth c H1 locs1 cells slots Q (F0 m (pc + 3) ls rest)) : W p l e R s m args below meth c H locs cells slots Q (F0 m pc ls (.int (nI n) :: .int (nI 0) :: .ref (ad k2 i2) :: .int (nI 0) :: .ref (ad k i) :: rest)) := by
  have hts := hC.2.1.hts args
  obtain ⟨f1, hP, hD, hm, hi⟩ := hX
  obtain ⟨g1, g2⟩ := hm k i _ he
  obtain ⟨g3, g4⟩ := hm k2 i2 _ he2
  obtain ⟨q, hq⟩ := va_pl_get (X := []) (f := f1) g1
  obtain ⟨q2, hq2⟩ := va_pl_get (X := []) (f := f1) g3
  rw [List.nil_append] at hq hq2
  have c0 : (nI 0).toNatClampNeg = 0 := nI_clamp (by decide)
  have cn : (nI n).toNatClampNeg = n := nI_clamp (by omega)
  refine va_copyq (D := E.1) (cl := vwCl) (A := A) hx hb hml hown (hts _ wMlC) (hts _ wNatC) (hts _ wStC) (hts _ (wg_t 14 (by decide +kernel) (by decide +kernel))) hC.1 hP (hD.weaken fun _ q _ h => hA q.1 h) hS q q2 2 2 (E0 := "java/lang/Object") (E1 := "java/lang/Object") (C := C) (by rw [hq, g2]) (by rw [hq2, g4]) rfl rfl (nI_pos (by decide)) (nI_pos (by decide)) (nI_pos (by omega)) (by rw [c0, cn]; omega) (by rw [c0, cn]; omega) (fun j _ y hy => hel _ y hy) (fun comp d h7 h8 => ?_) hR.1 hR.2 hdg fun H1 locs1 hP1 _ hS1 => ?_
  · obtain ⟨d0, t1, f1, f2, f3⟩ := Cond.castable_spec (args := #[]) (show (Cond.castable C "java/lang/Object").before #[] s = true from hca s hC.2.1)
    rw [Option.some.inj (h8.symm.trans f1), Option.some.inj (h7.symm.trans f2)]
    exact f3
  · rw [c0, cn] at hP1
    exact kk H1 locs1 (PI.setAt hD hm hi he2 hq2 hP1) hS1
end LSA
section LSB
variable {p : Program} {l : Launch} {e : Env} {R : Room} {s : State} {m : MethodId} {args : Array Value} {below : List Frame} {meth : Method} {c : Code} {H : Heap} {locs : List Loc} {cells slots : Nat} {Q : State → Prop}
variable {cc : ByteArray} {pc nL : Nat} {ls : Array Slot} {rest : List Value} {E : En} {L : List Nat} {ct : Nat → Nat → Option va_E} {ad : Nat → Nat → Nat} {A : Nat → Prop}
variable {y : MethodName} {b : ByteArray} {maxL n index : Nat} {rt : FieldType} {rm : Room} {own C : String}
theorem mu_SR {As : List Value} {nn mc ms : Nat} {B : Nat → Heap → Prop} {A1 : Nat → Prop} (hx : p.tables.exec = Jvm.exec) (hb : c.code = cc) (hml : c.maxLocals = nL) (hown : s.vm.findClass own = some m.cls) (hC : Cs E s) (hS : va_S A s.heap H locs) (hAb : ∀ q, A q → bA E q)
    (hM : MuR l y b maxL rt rm As E H B A1 mc ms) (hA1 : ∀ q, A1 q → A q) (hK : KS own index y b maxL (some rt) nn) (hrm : rm.cells = mc ∧ rm.slots = ms) (hR : rm.frames + 1 ≤ R.frames ∧ 8 + (maxL + 11) + rm.locals ≤ R.locals) (hn : As.length = nn) {lv : List (Nat × Value)} (hl : lv_has ls nL lv) (hr8 : (rest.map fun v => v.category).sum ≤ 8) (hc0 : cells + mc ≤ R.cells ∧ slots + ms ≤ R.slots) (hdg : decode cc pc = .ok (.invokestatic index, 3))
    (kk : ∀ (ra : Nat) (H1 : Heap) (locs1 : List Loc), B ra H1 → va_S A s.heap H1 locs1 → H.size ≤ H1.size → (∀ q, q < H.size → ¬ A1 q → H1[q]? = H[q]?) → W p l e R s m args below meth c H1 locs1 (cells + mc) (slots + ms) Q (F0 m (pc + 3) ls (.ref ra :: rest))) : W p l e R s m args below meth c H locs cells slots Q (F0 m pc ls (As.reverse ++ rest)) := by
  have hts := hC.2.1.hts args
  refine va_callr (va_runS (As := As) (rest := rest) ⟨hx, hb, hml, hown, hts⟩ hM (va_cwS nn hts hK.1 rfl hrm.1 hrm.2 hK.2 hR) ⟨PcR.blind, fun U hU hW => ⟨rfl, hU, hC.go hW hU hS hAb⟩⟩ rfl hn hl.1 rfl (lv_room hr8) hdg hc0) hS (fun q _ h => hA1 q h) hA1 (fun u ra t H1 locs1 ht hvm hw hB hz hk hS1 => ?_)
  rw [ht] at hB
  exact kk ra H1 locs1 hB hS1 hz hk
/-- Arrays.copyOf: the copy stands at (8, 0) -/
def cpB (sz : Nat) (E : En) (L : List Nat) (ct : Nat → Nat → Option va_E) (ad : Nat → Nat → Nat) (n0 n1 : Nat) (f : Nat → Option Nat) : Nat → Heap → Prop := fun a H1 => sz ≤ a ∧ a ∉ L ∧ PI E.1 (L ++ [a]) (ctu ct 8 0 (.inl (E.2 3, n1, .inr (.inr (.inr (.inr (va_cpy f (fun _ => none) 0 0 n0))))))) (up2 ad 8 0 a) H1
end LSB
section LSC
variable {E : En} {L : List Nat} {ct : Nat → Nat → Option va_E} {ad : Nat → Nat → Nat} {H0 : Heap}
theorem areA {p : Program} {l : Launch} {e : Env} {R : Room} {s : State} {m : MethodId} {args : Array Value} {below : List Frame} {meth : Method} {c : Code} {H : Heap} {locs : List Loc} {cc : ByteArray} {pc : Nat} {ls : Array Slot} {x : Nat} {ty : FieldType} {mc ms : Nat} {B : Nat → Heap → Prop} {A1 : Nat → Prop} (hx : p.tables.exec = Jvm.exec) (hb : c.code = cc) (hr : meth.sig.returnType = some (.array ty)) (hlocks : meth.locks = false) (hS : va_S A1 s.heap H locs) (hB : B x H) (hdg : decode cc pc = .ok (.areturn, 1)) : W p l e R s m args below meth c H locs mc ms (MQ below (QrM B A1) args s mc ms A1) (F0 m pc ls [.ref x]) :=
  W.aret hx hb hr (Or.inr ⟨_, rfl⟩) (Or.inr ⟨x, rfl⟩) (fun t ht hW => ⟨⟨(), x, rfl, trivial, by show B x t.heap; rw [ht]; exact hB⟩, hS.F ht⟩) hS.2.2 hdg
set_option maxHeartbeats 4000000 in
set_option maxRecDepth 100000 in
theorem mJ_copy3 (l : Launch) (hP : PI E.1 L ct ad H0) (hLb : ∀ q, q ∈ L → bA E q) (k i : Nat) (hk8 : k < 8) {n0 n1 : Nat} {f : Nat → Option Nat} (he : ct k i = some (.inl (E.2 3, n0, .inr (.inr (.inr (.inr f)))))) (h0 : n0 ≤ n1) (h1 : n1 < 200) {ci N : Nat} {T : u_T} {C : String} (hc : vwCl[ci]? = some (C, T, N)) (hca : CO C) (hel : ∀ j y, f j = some y → ∃ k' i' fs, k' < 8 ∧ y = ad k' i' ∧ ct k' i' = some (.inr (ci, fs))) : MuR l yJ7_copyOf_6403c cJ7_copyOf_6403c 4 (.array (.object "java/lang/Object")) (rmk 1 1 200 30) [.ref (ad k i), .int (nI n1), .ref (E.2 10)] E H0 (cpB H0.size E L ct ad n0 n1 f) (cA L H0) 1 200 := by
  refine ro_of (by decide) (Nat.le_of_ble_eq_true rfl) ?_
  intro p e s m below meth co ls hx hb hr hml hown hlocks hnm hC hU hl
  have hl : lv_has ls 4 [(0, .ref (ad k i)), (1, .int (nI n1)), (2, .ref (E.2 10))] := hl
  have hS : va_S (cA L H0) s.heap H0 [] := by rw [hU]; exact va_S.rf
  have hA : ∀ q, q ∈ L → cA L H0 q := fun q h => Or.inl h
  have hN : ∀ q, s.heap.size ≤ q → cA L H0 q := fun q h => Or.inr (by rw [← hU]; exact h)
  refine lv_aload_n hx hb dJ7_copyOf_6403c_0 rfl (lv_at hl 2 rfl) ?_
  refine va_ldcM hx hb hown (hC.2.1.hts _ _ wCl_J7_110) hC.2.2.2.2.2.1 dJ7_copyOf_6403c_1 ?_
  refine lv_acmp_ne (rx := some (E.2 10)) (ry := some (E.2 10)) (tgt := 13) hx hb dJ7_copyOf_6403c_3 (by decide) (fun z => absurd rfl z) (fun _ => ?_)
  refine lv_iload_n hx hb dJ7_copyOf_6403c_6 rfl (lv_at hl 1 rfl) ?_
  refine pi_newq hx hb hC hown hP hS hA hN wCl_J7_2 hC.2.2.2.2.2.2.2.1 2 rfl n1 (by omega) 8 0 ⟨Nat.le_of_ble_eq_true rfl, show 0 + n1 ≤ 200 by omega⟩ dJ7_copyOf_6403c_7 (fun q H hq hAq hP hS => ?_)
  have he' : ctu ct 8 0 (.inl (E.2 3, n1, .inr (.inr (.inr (.inr (fun _ => none)))))) k i = some (.inl (E.2 3, n0, .inr (.inr (.inr (.inr f))))) := (if_neg (by omega)).trans he
  have ha' : up2 ad 8 0 q k i = ad k i := if_neg (by omega)
  have hq' : up2 ad 8 0 q 8 0 = q := if_pos ⟨rfl, rfl⟩
  have hA : ∀ z, z ∈ L ++ [q] → cA L H0 z := fun z h => (List.mem_append.mp h).elim Or.inl (fun h => by rw [List.mem_singleton.mp h]; exact hAq)
  rw [← hq']
  refine lv_goto (tgt := 24) hx hb dJ7_copyOf_6403c_10 (by decide) ?_
  refine lv_astore_n (lv' := [(3, .ref (up2 ad 8 0 q 8 0)), (0, .ref (ad k i)), (1, .int (nI n1)), (2, .ref (E.2 10))]) hx hb dJ7_copyOf_6403c_24 rfl hl (by decide) rfl (fun ls hl => ?_)
  rw [← ha'] at hl
  refine lv_aload_n hx hb dJ7_copyOf_6403c_25 rfl (lv_at hl 1 rfl) ?_
  refine lv_iconstN hx hb 0 dJ7_copyOf_6403c_26 (by decide) ?_
  refine lv_aload_n hx hb dJ7_copyOf_6403c_27 rfl (lv_at hl 0 rfl) ?_
  refine lv_iconstN hx hb 0 dJ7_copyOf_6403c_28 (by decide) ?_
  refine lv_aload_n hx hb dJ7_copyOf_6403c_29 rfl (lv_at hl 1 rfl) ?_
  refine pi_alen (n := n0) hx hb hC hP k i 2 rfl he' dJ7_copyOf_6403c_30 ?_
  refine lv_iload_n hx hb dJ7_copyOf_6403c_31 rfl (lv_at hl 2 rfl) ?_
  refine va_mmin hx hb (hml.trans hl.1.symm) hown (hC.2.1.hts _ _ wMin_J7) (hC.2.1.hts _ _ wMinS) (hC.2.1.hts _ _ wAbsI) (hC.2.1.hts _ _ wMinC) (Nat.le_of_ble_eq_true rfl) (Nat.le_of_ble_eq_true rfl) (show 0 + 1 ≤ 1 by omega) (show 0 + n1 ≤ 200 by omega) (x := nI n0) (y := nI n1) dJ7_copyOf_6403c_32 ?_
  rw [nI_min (by omega) (by omega), Nat.min_eq_left h0]
  refine pi_copyq hx hb (hml.trans hl.1.symm) hC hown hP hS hA k i 8 0 (n := n0) he' (if_pos ⟨rfl, rfl⟩) (Nat.le_refl _) h0 (by omega) hca (fun j y hy => ?_) ⟨Nat.le_of_ble_eq_true rfl, by decide⟩ dJ7_copyOf_6403c_35 (fun H locs hP hS => ?_)
  · obtain ⟨k', i', fs, e0, e1, e2⟩ := hel j y hy
    have z : ¬ (k' = 8 ∧ i' = 0) := fun z => by omega
    rw [e1, show ad k' i' = up2 ad 8 0 q k' i' from (if_neg z).symm]
    exact hP.recv hC ((if_neg z).trans e2) hc
  refine lv_aload_n hx hb dJ7_copyOf_6403c_38 rfl (lv_at hl 0 rfl) ?_
  refine W.widen (k := 1) (n := 200) (by omega) (by omega) ?_
  rw [hq']
  refine areA hx hb hr hlocks hS ⟨hAq.elim (fun h => absurd h hq) id, hq, hP.ext fun k' i' => ?_⟩ dJ7_copyOf_6403c_39
  unfold ctu
  by_cases z : k' = 8 ∧ i' = 0 <;> simp [z]
theorem wGcL : .methodLink RJ7 86 ⟨"java/lang/Object", "getClass", "()Ljava/lang/Class;"⟩ ∈ WG := wg_t 245 (by decide +kernel) (by decide +kernel)
theorem wGcI : .instanceMethod ⟨"java/lang/Object", "getClass", "()Ljava/lang/Class;"⟩ ∈ WG := wg_t 246 (by decide +kernel) (by decide +kernel)
theorem wGcS : .selects "[Ljava/lang/Object;" ⟨"java/lang/Object", "getClass", "()Ljava/lang/Class;"⟩ ⟨"java/lang/Object", "getClass", "()Ljava/lang/Class;"⟩ ∈ WG := wg_t 779 (by decide +kernel) (by decide +kernel)
theorem wGcD {s : State} {args : Array Value} (hC : Cs E s) : (Cond.declares ⟨"java/lang/Object", "getClass", "()Ljava/lang/Class;"⟩).before args s = true := va_Dc.use (wn_t 780 (w := .declares ⟨"java/lang/Object", "getClass", "()Ljava/lang/Class;"⟩) (by decide +kernel) (by decide +kernel) hC.2.1)
theorem PI.recvA {s : State} {H : Heap} (hP : PI E.1 L ct ad H) (hC : Cs E s) {k i : Nat} {x : vp_A} (he : ct k i = some (.inl (E.2 3, x))) : ∃ cellB : Cell, H[ad k i]? = some cellB ∧ cellB.vm.isStatics = false ∧ s.vm.findClass "[Ljava/lang/Object;" = some cellB.cls := by
  have h := hP.one he 0 _ rfl
  have hcl0 : (vp_cell (E.2 3) x).cls = E.2 3 := by
    obtain ⟨n, f | f | f | f | f⟩ := x <;> rfl
  refine ⟨vp_cell (E.2 3) x, h, ?_, by rw [hcl0]; exact fc_Oa hC⟩
  obtain ⟨n, f | f | f | f | f⟩ := x <;> rfl
set_option maxHeartbeats 4000000 in
set_option maxRecDepth 100000 in
theorem mJ_copy2 (l : Launch) (hP : PI E.1 L ct ad H0) (hLb : ∀ q, q ∈ L → bA E q) (k i : Nat) (hk8 : k < 8) {n0 n1 : Nat} {f : Nat → Option Nat} (he : ct k i = some (.inl (E.2 3, n0, .inr (.inr (.inr (.inr f)))))) (h0 : n0 ≤ n1) (h1 : n1 < 200) {ci N : Nat} {T : u_T} {C : String} (hc : vwCl[ci]? = some (C, T, N)) (hca : CO C) (hel : ∀ j y, f j = some y → ∃ k' i' fs, k' < 8 ∧ y = ad k' i' ∧ ct k' i' = some (.inr (ci, fs))) : MuR l yJ7_copyOf_1904c cJ7_copyOf_1904c 2 (.array (.object "java/lang/Object")) (rmk 2 1 200 60) [.ref (ad k i), .int (nI n1)] E H0 (cpB H0.size E L ct ad n0 n1 f) (cA L H0) 1 200 := by
  refine ro_of (by decide) (Nat.le_of_ble_eq_true rfl) ?_
  intro p e s m below meth co ls hx hb hr hml hown hlocks hnm hC hU hl
  have hl : lv_has ls 2 [(0, .ref (ad k i)), (1, .int (nI n1))] := hl
  have hS : va_S (cA L H0) s.heap H0 [] := by rw [hU]; exact va_S.rf
  have hAb : ∀ q, cA L H0 q → bA E q := fun q h => h.elim (hLb q) (fun z => Nat.le_trans hC.2.2.2.1 (by rw [hU]; exact z))
  refine lv_aload_n hx hb dJ7_copyOf_1904c_0 rfl (lv_at hl 0 rfl) ?_
  refine lv_iload_n hx hb dJ7_copyOf_1904c_1 rfl (lv_at hl 1 rfl) ?_
  refine lv_aload_n hx hb dJ7_copyOf_1904c_2 rfl (lv_at hl 0 rfl) ?_
  refine va_getC (C := "[Ljava/lang/Object;") hx hb (hml.trans hl.1.symm) hown (hC.2.1.hts _ _ wGcL) (wGcD hC) (hC.2.1.hts _ _ wGcS) (hC.2.1.hts _ _ wGcI) (hC.2.1.hts _ _ wNatG) hC.2.2.2.2.2.1 (hP.recvA hC he) (Nat.le_of_ble_eq_true rfl) (Nat.le_of_ble_eq_true rfl) dJ7_copyOf_1904c_3 ?_
  refine mu_SR (As := [.ref (ad k i), .int (nI n1), .ref (E.2 10)]) (rest := []) hx hb hml hown hC hS hAb (mJ_copy3 l hP hLb k i hk8 he h0 h1 hc hca hel) (fun _ h => h) kS_J7_300 ⟨rfl, rfl⟩ ⟨Nat.le_of_ble_eq_true rfl, Nat.le_of_ble_eq_true rfl⟩ rfl hl (Nat.le_of_ble_eq_true rfl) ⟨Nat.le_of_ble_eq_true rfl, Nat.le_of_ble_eq_true rfl⟩ dJ7_copyOf_1904c_6 (fun a H locs hB hS _ _ => ?_)
  exact areA hx hb hr hlocks hS hB dJ7_copyOf_1904c_9
end LSC
