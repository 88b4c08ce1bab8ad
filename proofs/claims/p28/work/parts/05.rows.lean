def bI (b : Bool) : Int32 := if b = true then 1 else 0
theorem bI0 {b : Bool} : bI b = 0 ↔ b = false := by cases b <;> decide
theorem bI1 {b : Bool} : ¬ bI b = 0 ↔ b = true := by cases b <;> decide
theorem bI_nar (b : Bool) : narrow .boolean (.int (bI b)) = .int (bI b) := by cases b <;> rfl
theorem bI_fit (b : Bool) : fits .boolean (.int (bI b)) = true := by cases b <;> rfl
abbrev rmk (f c s lo : Nat) : Room := { frames := f, cells := c, slots := s, locals := lo }
section RWA
variable {p : Program} {l : Launch} {e : Env} {R : Room} {s : State} {m : MethodId} {args : Array Value} {below : List Frame} {meth : Method} {c : Code} {H : Heap} {locs : List Loc} {cells slots : Nat} {Q : State → Prop}
variable {cc : ByteArray} {pc : Nat} {ls : Array Slot} {rest : List Value}
theorem lv_iaddN (hx : p.tables.exec = Jvm.exec) (hb : c.code = cc) {x y : Nat} (hdg : decode cc pc = .ok (.iadd, 1)) (k : W p l e R s m args below meth c H locs cells slots Q (F0 m (pc + 1) ls (.int (nI (x + y)) :: rest))) : W p l e R s m args below meth c H locs cells slots Q (F0 m pc ls (.int (nI y) :: .int (nI x) :: rest)) :=
  lv_iadd hx hb hdg (by rw [nI_add]; exact k)
theorem lv_isubN (hx : p.tables.exec = Jvm.exec) (hb : c.code = cc) {x y : Nat} (hdg : decode cc pc = .ok (.isub, 1)) (h : y ≤ x) (k : W p l e R s m args below meth c H locs cells slots Q (F0 m (pc + 1) ls (.int (nI (x - y)) :: rest))) : W p l e R s m args below meth c H locs cells slots Q (F0 m pc ls (.int (nI y) :: .int (nI x) :: rest)) :=
  lv_isub hx hb hdg (by rw [pk_sub h]; exact k)
theorem lv_imulN (hx : p.tables.exec = Jvm.exec) (hb : c.code = cc) {x y : Nat} (hdg : decode cc pc = .ok (.imul, 1)) (k : W p l e R s m args below meth c H locs cells slots Q (F0 m (pc + 1) ls (.int (nI (x * y)) :: rest))) : W p l e R s m args below meth c H locs cells slots Q (F0 m pc ls (.int (nI y) :: .int (nI x) :: rest)) :=
  lv_imul hx hb hdg (by rw [pk_mul]; exact k)
theorem lv_idivN (hx : p.tables.exec = Jvm.exec) (hb : c.code = cc) {x y : Nat} (hdg : decode cc pc = .ok (.idiv, 1)) (h1 : x < 2 ^ 31) (h2 : 0 < y) (h3 : y < 2 ^ 31) (k : W p l e R s m args below meth c H locs cells slots Q (F0 m (pc + 1) ls (.int (nI (x / y)) :: rest))) : W p l e R s m args below meth c H locs cells slots Q (F0 m pc ls (.int (nI y) :: .int (nI x) :: rest)) :=
  lv_idiv hx hb hdg (nI_ne0 h2 h3) (by rw [pk_div h1 h2 h3]; exact k)
theorem lv_iremN (hx : p.tables.exec = Jvm.exec) (hb : c.code = cc) {x y : Nat} (hdg : decode cc pc = .ok (.irem, 1)) (h1 : x < 2 ^ 31) (h2 : 0 < y) (h3 : y < 2 ^ 31) (k : W p l e R s m args below meth c H locs cells slots Q (F0 m (pc + 1) ls (.int (nI (x % y)) :: rest))) : W p l e R s m args below meth c H locs cells slots Q (F0 m pc ls (.int (nI y) :: .int (nI x) :: rest)) :=
  lv_irem hx hb hdg (nI_ne0 h2 h3) (by rw [pk_rem h1 h2 h3]; exact k)
theorem lv_iconstN (hx : p.tables.exec = Jvm.exec) (hb : c.code = cc) {n : Int} (v : Nat) (hdg : decode cc pc = .ok (.iconst n, 1)) (hv : Int32.ofInt n = nI v) (k : W p l e R s m args below meth c H locs cells slots Q (F0 m (pc + 1) ls (.int (nI v) :: rest))) : W p l e R s m args below meth c H locs cells slots Q (F0 m pc ls rest) := lv_iconst hx hb hdg hv k
theorem lv_bipushN (hx : p.tables.exec = Jvm.exec) (hb : c.code = cc) {n : Int} (v : Nat) (hdg : decode cc pc = .ok (.bipush n, 2)) (hv : (Int8.ofInt n).toInt32 = nI v) (k : W p l e R s m args below meth c H locs cells slots Q (F0 m (pc + 2) ls (.int (nI v) :: rest))) : W p l e R s m args below meth c H locs cells slots Q (F0 m pc ls rest) := lv_bipush hx hb hdg hv k
theorem lv_sipushN (hx : p.tables.exec = Jvm.exec) (hb : c.code = cc) {n : Int} (v : Nat) (hdg : decode cc pc = .ok (.sipush n, 3)) (hv : (Int16.ofInt n).toInt32 = nI v) (k : W p l e R s m args below meth c H locs cells slots Q (F0 m (pc + 3) ls (.int (nI v) :: rest))) : W p l e R s m args below meth c H locs cells slots Q (F0 m pc ls rest) := lv_sipush hx hb hdg hv k
theorem lv_iincN (hx : p.tables.exec = Jvm.exec) (hb : c.code = cc) {i nL k : Nat} {n : Int} {x v : Nat} {lv lv' : List (Nat × Value)} (hdg : decode cc pc = .ok (.iinc i n, 3)) (h : lv_has ls nL lv) (hk : lv[k]? = some (i, .int (nI x))) (hv : Int32.ofInt n = nI v) (hn : i < nL) (hl : (i, Value.int (nI (x + v))) :: lv.filter (fun q => !(q.1 == i) && !(q.1 + 1 == i && q.2.category == 2)) = lv')
    (kk : ∀ ls' : Array Slot, lv_has ls' nL lv' → W p l e R s m args below meth c H locs cells slots Q (F0 m (pc + 3) ls' rest)) : W p l e R s m args below meth c H locs cells slots Q (F0 m pc ls rest) :=
  lv_iinc hx hb hdg h hk (by rw [hv, nI_add]) hn hl kk
theorem lv_icmpN_ge (hx : p.tables.exec = Jvm.exec) (hb : c.code = cc) {x y : Nat} {off : Int} {tgt : Nat} (hdg : decode cc pc = .ok (.if_icmp .ge off, 3)) (ht : (pc : Int) + off = (tgt : Int)) (h1 : x < 2 ^ 31) (h2 : y < 2 ^ 31)
    (kt : y ≤ x → W p l e R s m args below meth c H locs cells slots Q (F0 m tgt ls rest)) (kf : x < y → W p l e R s m args below meth c H locs cells slots Q (F0 m (pc + 3) ls rest)) : W p l e R s m args below meth c H locs cells slots Q (F0 m pc ls (.int (nI y) :: .int (nI x) :: rest)) :=
  lv_icmp_ge hx hb hdg ht (fun q => kt ((nI_leI h2 h1).mp q)) (fun q => kf (Nat.not_le.mp fun z => q ((nI_leI h2 h1).mpr z)))
theorem lv_icmpN_gt (hx : p.tables.exec = Jvm.exec) (hb : c.code = cc) {x y : Nat} {off : Int} {tgt : Nat} (hdg : decode cc pc = .ok (.if_icmp .gt off, 3)) (ht : (pc : Int) + off = (tgt : Int)) (h1 : x < 2 ^ 31) (h2 : y < 2 ^ 31)
    (kt : y < x → W p l e R s m args below meth c H locs cells slots Q (F0 m tgt ls rest)) (kf : x ≤ y → W p l e R s m args below meth c H locs cells slots Q (F0 m (pc + 3) ls rest)) : W p l e R s m args below meth c H locs cells slots Q (F0 m pc ls (.int (nI y) :: .int (nI x) :: rest)) :=
  lv_icmp_gt hx hb hdg ht (fun q => kt ((nI_ltI h2 h1).mp q)) (fun q => kf (Nat.not_lt.mp fun z => q ((nI_ltI h2 h1).mpr z)))
theorem lv_icmpN_lt (hx : p.tables.exec = Jvm.exec) (hb : c.code = cc) {x y : Nat} {off : Int} {tgt : Nat} (hdg : decode cc pc = .ok (.if_icmp .lt off, 3)) (ht : (pc : Int) + off = (tgt : Int)) (h1 : x < 2 ^ 31) (h2 : y < 2 ^ 31)
    (kt : x < y → W p l e R s m args below meth c H locs cells slots Q (F0 m tgt ls rest)) (kf : y ≤ x → W p l e R s m args below meth c H locs cells slots Q (F0 m (pc + 3) ls rest)) : W p l e R s m args below meth c H locs cells slots Q (F0 m pc ls (.int (nI y) :: .int (nI x) :: rest)) :=
  lv_icmp_lt hx hb hdg ht (fun q => kt ((nI_ltI h1 h2).mp q)) (fun q => kf (Nat.not_lt.mp fun z => q ((nI_ltI h1 h2).mpr z)))
theorem lv_icmpN_le (hx : p.tables.exec = Jvm.exec) (hb : c.code = cc) {x y : Nat} {off : Int} {tgt : Nat} (hdg : decode cc pc = .ok (.if_icmp .le off, 3)) (ht : (pc : Int) + off = (tgt : Int)) (h1 : x < 2 ^ 31) (h2 : y < 2 ^ 31)
    (kt : x ≤ y → W p l e R s m args below meth c H locs cells slots Q (F0 m tgt ls rest)) (kf : y < x → W p l e R s m args below meth c H locs cells slots Q (F0 m (pc + 3) ls rest)) : W p l e R s m args below meth c H locs cells slots Q (F0 m pc ls (.int (nI y) :: .int (nI x) :: rest)) :=
  lv_icmp_le hx hb hdg ht (fun q => kt ((nI_leI h1 h2).mp q)) (fun q => kf (Nat.not_le.mp fun z => q ((nI_leI h1 h2).mpr z)))
theorem lv_icmpN_eq (hx : p.tables.exec = Jvm.exec) (hb : c.code = cc) {x y : Nat} {off : Int} {tgt : Nat} (hdg : decode cc pc = .ok (.if_icmp .eq off, 3)) (ht : (pc : Int) + off = (tgt : Int)) (h1 : x < 2 ^ 31) (h2 : y < 2 ^ 31)
    (kt : x = y → W p l e R s m args below meth c H locs cells slots Q (F0 m tgt ls rest)) (kf : x ≠ y → W p l e R s m args below meth c H locs cells slots Q (F0 m (pc + 3) ls rest)) : W p l e R s m args below meth c H locs cells slots Q (F0 m pc ls (.int (nI y) :: .int (nI x) :: rest)) :=
  lv_icmp_eq hx hb hdg ht (fun q => kt ((nI_eq h1 h2).mp q)) (fun q => kf (fun z => q ((nI_eq h1 h2).mpr z)))
theorem lv_icmpN_ne (hx : p.tables.exec = Jvm.exec) (hb : c.code = cc) {x y : Nat} {off : Int} {tgt : Nat} (hdg : decode cc pc = .ok (.if_icmp .ne off, 3)) (ht : (pc : Int) + off = (tgt : Int)) (h1 : x < 2 ^ 31) (h2 : y < 2 ^ 31)
    (kt : x ≠ y → W p l e R s m args below meth c H locs cells slots Q (F0 m tgt ls rest)) (kf : x = y → W p l e R s m args below meth c H locs cells slots Q (F0 m (pc + 3) ls rest)) : W p l e R s m args below meth c H locs cells slots Q (F0 m pc ls (.int (nI y) :: .int (nI x) :: rest)) :=
  lv_icmp_ne hx hb hdg ht (fun q => kt (fun z => q ((nI_eq h1 h2).mpr z))) (fun q => kf ((nI_eq h1 h2).mp q))
theorem lv_ifN_gt (hx : p.tables.exec = Jvm.exec) (hb : c.code = cc) {x : Nat} {off : Int} {tgt : Nat} (hdg : decode cc pc = .ok (.ifCond .gt off, 3)) (ht : (pc : Int) + off = (tgt : Int)) (h1 : x < 2 ^ 31)
    (kt : 0 < x → W p l e R s m args below meth c H locs cells slots Q (F0 m tgt ls rest)) (kf : x = 0 → W p l e R s m args below meth c H locs cells slots Q (F0 m (pc + 3) ls rest)) : W p l e R s m args below meth c H locs cells slots Q (F0 m pc ls (.int (nI x) :: rest)) :=
  lv_if_gt hx hb hdg ht (fun q => kt ((nI_ltI (a := 0) (by decide) h1).mp q)) (fun q => kf (Nat.eq_zero_of_not_pos fun z => q ((nI_ltI (a := 0) (by decide) h1).mpr z)))
theorem lv_ifN_le (hx : p.tables.exec = Jvm.exec) (hb : c.code = cc) {x : Nat} {off : Int} {tgt : Nat} (hdg : decode cc pc = .ok (.ifCond .le off, 3)) (ht : (pc : Int) + off = (tgt : Int)) (h1 : x < 2 ^ 31)
    (kt : x = 0 → W p l e R s m args below meth c H locs cells slots Q (F0 m tgt ls rest)) (kf : 0 < x → W p l e R s m args below meth c H locs cells slots Q (F0 m (pc + 3) ls rest)) : W p l e R s m args below meth c H locs cells slots Q (F0 m pc ls (.int (nI x) :: rest)) :=
  lv_if_le hx hb hdg ht (fun q => kt (Nat.le_zero.mp ((nI_leI (b := 0) h1 (by decide)).mp q))) (fun q => kf (Nat.pos_of_ne_zero fun z => q ((nI_leI (b := 0) h1 (by decide)).mpr (Nat.le_of_eq z))))
theorem lv_ifN_eq (hx : p.tables.exec = Jvm.exec) (hb : c.code = cc) {x : Nat} {off : Int} {tgt : Nat} (hdg : decode cc pc = .ok (.ifCond .eq off, 3)) (ht : (pc : Int) + off = (tgt : Int)) (h1 : x < 2 ^ 31)
    (kt : x = 0 → W p l e R s m args below meth c H locs cells slots Q (F0 m tgt ls rest)) (kf : 0 < x → W p l e R s m args below meth c H locs cells slots Q (F0 m (pc + 3) ls rest)) : W p l e R s m args below meth c H locs cells slots Q (F0 m pc ls (.int (nI x) :: rest)) :=
  lv_if_eq hx hb hdg ht (fun q => kt ((nI_eq (b := 0) h1 (by decide)).mp q)) (fun q => kf (Nat.pos_of_ne_zero fun z => q ((nI_eq (b := 0) h1 (by decide)).mpr z)))
theorem lv_ifN_ne (hx : p.tables.exec = Jvm.exec) (hb : c.code = cc) {x : Nat} {off : Int} {tgt : Nat} (hdg : decode cc pc = .ok (.ifCond .ne off, 3)) (ht : (pc : Int) + off = (tgt : Int)) (h1 : x < 2 ^ 31)
    (kt : 0 < x → W p l e R s m args below meth c H locs cells slots Q (F0 m tgt ls rest)) (kf : x = 0 → W p l e R s m args below meth c H locs cells slots Q (F0 m (pc + 3) ls rest)) : W p l e R s m args below meth c H locs cells slots Q (F0 m pc ls (.int (nI x) :: rest)) :=
  lv_if_ne hx hb hdg ht (fun q => kt (Nat.pos_of_ne_zero fun z => q ((nI_eq (b := 0) h1 (by decide)).mpr z))) (fun q => kf ((nI_eq (b := 0) h1 (by decide)).mp q))
theorem lv_bif_eq (hx : p.tables.exec = Jvm.exec) (hb : c.code = cc) {x : Bool} {off : Int} {tgt : Nat} (hdg : decode cc pc = .ok (.ifCond .eq off, 3)) (ht : (pc : Int) + off = (tgt : Int))
    (kt : x = false → W p l e R s m args below meth c H locs cells slots Q (F0 m tgt ls rest)) (kf : x = true → W p l e R s m args below meth c H locs cells slots Q (F0 m (pc + 3) ls rest)) : W p l e R s m args below meth c H locs cells slots Q (F0 m pc ls (.int (bI x) :: rest)) :=
  lv_if_eq hx hb hdg ht (fun q => kt (bI0.mp q)) (fun q => kf (bI1.mp q))
theorem lv_bif_ne (hx : p.tables.exec = Jvm.exec) (hb : c.code = cc) {x : Bool} {off : Int} {tgt : Nat} (hdg : decode cc pc = .ok (.ifCond .ne off, 3)) (ht : (pc : Int) + off = (tgt : Int))
    (kt : x = true → W p l e R s m args below meth c H locs cells slots Q (F0 m tgt ls rest)) (kf : x = false → W p l e R s m args below meth c H locs cells slots Q (F0 m (pc + 3) ls rest)) : W p l e R s m args below meth c H locs cells slots Q (F0 m pc ls (.int (bI x) :: rest)) :=
  lv_if_ne hx hb hdg ht (fun q => kt (bI1.mp q)) (fun q => kf (bI0.mp q))
end RWA
/-! fields of pictured cells -/
def FL (own ref : String) (index ci : Nat) (C : String) (T : u_T) (N n : Nat) : Prop := vwCl[ci]? = some (C, T, N) ∧ n < N ∧ (∀ w ∈ u_ws C T N, w ∈ WG) ∧ .fieldLink own index ref (T n).2.1 (T n).2.2.1 ∈ WG ∧ (T n).1 = ref
def FP (own ref : String) (index ci : Nat) (C : String) (T : u_T) (N n : Nat) (ty : FieldType) : Prop := FL own ref index ci C T N n ∧ (∃ ty0 : Nat → FieldType, ∀ k, k < N → parseFieldDescriptor (T k).2.2.1 = some (ty0 k)) ∧ (∀ a, a < N → ∀ b, b < N → a ≠ b → (T a).2.1 ≠ (T b).2.1) ∧ (T n).2.2.2 = false ∧ parseFieldDescriptor (T n).2.2.1 = some ty
def FF (own ref : String) (index ci : Nat) (C : String) (T : u_T) (N n : Nat) (ty : FieldType) : Prop := FL own ref index ci C T N n ∧ (∃ ty0 : Nat → FieldType, ∀ k, k < N → parseFieldDescriptor (T k).2.2.1 = some (ty0 k)) ∧ (∀ a, a < N → ∀ b, b < N → a ≠ b → (T a).2.1 ≠ (T b).2.1) ∧ (T n).2.2.2 = true ∧ (T n).1 = own ∧ parseFieldDescriptor (T n).2.2.1 = some ty
theorem not_vp {i n : Nat} (h : i < n) (hn : n < 2 ^ 31) : vp_in (nI i) n := vp_in_nI h hn
section RWB
variable {p : Program} {l : Launch} {e : Env} {R : Room} {s : State} {m : MethodId} {args : Array Value} {below : List Frame} {meth : Method} {c : Code} {H H0 : Heap} {locs : List Loc} {cells slots : Nat} {Q : State → Prop}
variable {cc : ByteArray} {pc : Nat} {ls : Array Slot} {rest : List Value} {E : En} {L : List Nat} {ct : Nat → Nat → Option va_E} {ad : Nat → Nat → Nat} {A : Nat → Prop}
theorem pi_get (hx : p.tables.exec = Jvm.exec) (hb : c.code = cc) {own ref : String} {index ci n N : Nat} {C : String} {T : u_T} (hC : Cs E s) (hown : s.vm.findClass own = some m.cls) (hX : PI E.1 L ct ad H) (hf : FL own ref index ci C T N n) (k i : Nat) {fs : List Value} (he : ct k i = some (.inr (ci, fs))) {v : Value} (hv : fs[n]? = some v) (hdg : decode cc pc = .ok (.getfield index, 3))
    (kk : W p l e R s m args below meth c H locs cells slots Q (F0 m (pc + 3) ls (v :: rest))) : W p l e R s m args below meth c H locs cells slots Q (F0 m pc ls (.ref (ad k i) :: rest)) := by
  obtain ⟨h1, h2, h3, h4, h5⟩ := hf
  exact va_get (D := E.1) (cl := vwCl) hx hb (hC.2.1.hts args) h3 hown hC.1 (hX.one he) 0 rfl h1 n h2 (hC.2.1.hts args _ h4) (fun x h9 => by rw [← h5]; exact h9) hv hdg kk
theorem pi_put (hx : p.tables.exec = Jvm.exec) (hb : c.code = cc) {own ref : String} {index ci n N : Nat} {C : String} {T : u_T} {ty : FieldType} (hC : Cs E s) (hown : s.vm.findClass own = some m.cls) (hX : PI E.1 L ct ad H) (hS : va_S A H0 H locs) (hA : ∀ q, q ∈ L → A q) (hf : FP own ref index ci C T N n ty) (k i : Nat) {fs : List Value} (he : ct k i = some (.inr (ci, fs))) {v : Value} (hn : narrow ty v = v) (hfit : fits ty v = true) (hl : n < fs.length) (hdg : decode cc pc = .ok (.putfield index, 3))
    (kk : ∀ (H1 : Heap) (locs1 : List Loc), PI E.1 L (ctu ct k i (.inr (ci, fs.set n v))) ad H1 → va_S A H0 H1 locs1 → W p l e R s m args below meth c H1 locs1 cells slots Q (F0 m (pc + 3) ls rest)) : W p l e R s m args below meth c H locs cells slots Q (F0 m pc ls (v :: .ref (ad k i) :: rest)) := by
  obtain ⟨⟨h1, h2, h3, h4, h5⟩, ⟨ty0, h6⟩, h7, h8, h9⟩ := hf
  obtain ⟨f, hP, hD, hm, hi⟩ := hX
  obtain ⟨g1, g2⟩ := hm k i _ he
  obtain ⟨j, hj⟩ := va_pl_get (X := []) (f := f) g1
  rw [List.nil_append] at hj
  refine va_put (D := E.1) (cl := vwCl) (A := A) hx hb (hC.2.1.hts args) h3 ty0 h6 h7 hown hC.1 hP (hD.weaken fun _ q _ h => hA q.1 h) hS j (fs := fs) (by rw [hj, g2]) h1 n h2 (hC.2.1.hts args _ h4) (fun x q => by rw [← h5]; exact q) h8 h9 hn hfit hl hdg fun H1 locs1 hP1 _ hS1 => ?_
  exact kk H1 locs1 (PI.setAt hD hm hi he hj hP1) hS1
/-- int arrays -/
theorem pi_iald (hx : p.tables.exec = Jvm.exec) (hb : c.code = cc) (hC : Cs E s) (hX : PI E.1 L ct ad H) (k i : Nat) {n : Nat} {f : Nat → Int32} (he : ct k i = some (.inl (E.2 1, n, .inl f))) {j : Nat} (hj : j < n) (hn : n < 2 ^ 31) (hdg : decode cc pc = .ok (.iaload, 1))
    (kk : W p l e R s m args below meth c H locs cells slots Q (F0 m (pc + 1) ls (.int (f j) :: rest))) : W p l e R s m args below meth c H locs cells slots Q (F0 m pc ls (.int (nI j) :: .ref (ad k i) :: rest)) :=
  va_iald (D := E.1) (cl := vwCl) hx hb hC.1 (hX.one he) 0 0 rfl rfl (vp_in_nI hj hn) hdg (by rw [nI_clamp (Nat.lt_trans hj hn)]; exact kk)
theorem pi_iast (hx : p.tables.exec = Jvm.exec) (hb : c.code = cc) (hC : Cs E s) (hX : PI E.1 L ct ad H) (hS : va_S A H0 H locs) (hA : ∀ q, q ∈ L → A q) (k i : Nat) {n : Nat} {f : Nat → Int32} (he : ct k i = some (.inl (E.2 1, n, .inl f))) {j : Nat} (hj : j < n) (hn : n < 2 ^ 31) {x : Int32} (hdg : decode cc pc = .ok (.iastore, 1))
    (kk : ∀ (H1 : Heap) (locs1 : List Loc), PI E.1 L (ctu ct k i (.inl (E.2 1, n, .inl (upd f j x)))) ad H1 → va_S A H0 H1 locs1 → W p l e R s m args below meth c H1 locs1 cells slots Q (F0 m (pc + 1) ls rest)) : W p l e R s m args below meth c H locs cells slots Q (F0 m pc ls (.int x :: .int (nI j) :: .ref (ad k i) :: rest)) := by
  obtain ⟨f1, hP, hD, hm, hi⟩ := hX
  obtain ⟨g1, g2⟩ := hm k i _ he
  obtain ⟨q, hq⟩ := va_pl_get (X := []) (f := f1) g1
  rw [List.nil_append] at hq
  refine va_iast (D := E.1) (cl := vwCl) (A := A) hx hb hC.1 hP (hD.weaken fun _ q _ h => hA q.1 h) hS q 0 (cA := E.2 1) (n := n) (f := f) (by rw [hq, g2]) rfl (vp_in_nI hj hn) hdg fun H1 locs1 hP1 _ hS1 => ?_
  rw [nI_clamp (Nat.lt_trans hj hn)] at hP1
  exact kk H1 locs1 (PI.setAt hD hm hi he hq hP1) hS1
/-- arrays of references -/
theorem pi_rald (hx : p.tables.exec = Jvm.exec) (hb : c.code = cc) (hC : Cs E s) (hX : PI E.1 L ct ad H) (k i t : Nat) {cA : ClassId} {Cn : String} {n : Nat} {f : Nat → Option Nat} (ht : (tyl E)[t]? = some (cA, .object Cn)) (he : ct k i = some (.inl (cA, n, .inr (.inr (.inr (.inr f)))))) {j : Nat} (hj : j < n) (hn : n < 2 ^ 31) (hdg : decode cc pc = .ok (.aaload, 1))
    (kn : f j = none → W p l e R s m args below meth c H locs cells slots Q (F0 m (pc + 1) ls (.null :: rest)))
    (ks : ∀ y, f j = some y → W p l e R s m args below meth c H locs cells slots Q (F0 m (pc + 1) ls (.ref y :: rest))) : W p l e R s m args below meth c H locs cells slots Q (F0 m pc ls (.int (nI j) :: .ref (ad k i) :: rest)) := by
  refine va_aldq (D := E.1) (cl := vwCl) (C := Cn) hx hb hC.1 (hX.one he) 0 t rfl ht (vp_in_nI hj hn) hdg ?_
  rw [nI_clamp (Nat.lt_trans hj hn)]
  cases h : f j with
  | none => exact kn h
  | some y => exact ks y h
theorem pi_rast (hx : p.tables.exec = Jvm.exec) (hb : c.code = cc) (hC : Cs E s) (hX : PI E.1 L ct ad H) (hS : va_S A H0 H locs) (hA : ∀ q, q ∈ L → A q) (k i t : Nat) {cA : ClassId} {r : vw_C} {n : Nat} {f : Nat → Option Nat} (ht : (tyl E)[t]? = some (cA, .object r.1)) (he : ct k i = some (.inl (cA, n, .inr (.inr (.inr (.inr f)))))) (k2 i2 : Nat) {ci : Nat} {vs : List Value} (he2 : ct k2 i2 = some (.inr (ci, vs))) (hc : vwCl[ci]? = some r) {j : Nat} (hj : j < n) (hn : n < 2 ^ 31) (hdg : decode cc pc = .ok (.aastore, 1))
    (kk : ∀ (H1 : Heap) (locs1 : List Loc), PI E.1 L (ctu ct k i (.inl (cA, n, .inr (.inr (.inr (.inr (va_up f j (some (ad k2 i2))))))))) ad H1 → va_S A H0 H1 locs1 → W p l e R s m args below meth c H1 locs1 cells slots Q (F0 m (pc + 1) ls rest)) : W p l e R s m args below meth c H locs cells slots Q (F0 m pc ls (.ref (ad k2 i2) :: .int (nI j) :: .ref (ad k i) :: rest)) := by
  obtain ⟨f1, hP, hD, hm, hi⟩ := hX
  obtain ⟨g1, g2⟩ := hm k i _ he
  obtain ⟨g3, g4⟩ := hm k2 i2 _ he2
  obtain ⟨q, hq⟩ := va_pl_get (X := []) (f := f1) g1
  obtain ⟨q2, hq2⟩ := va_pl_get (X := []) (f := f1) g3
  rw [List.nil_append] at hq hq2
  refine va_astq (D := E.1) (cl := vwCl) (A := A) hx hb hC.1 hP (hD.weaken fun _ q _ h => hA q.1 h) hS q t q2 ci (cA := cA) (r := r) (n := n) (v := ad k2 i2) (vs := vs) (f := f) (by rw [hq, g2]) ht (by rw [hq2, g4]) hc (vp_in_nI hj hn) hdg fun H1 locs1 hP1 _ hS1 => ?_
  rw [nI_clamp (Nat.lt_trans hj hn)] at hP1
  exact kk H1 locs1 (PI.setAt hD hm hi he hq hP1) hS1
theorem pi_rastN (hx : p.tables.exec = Jvm.exec) (hb : c.code = cc) (hC : Cs E s) (hX : PI E.1 L ct ad H) (hS : va_S A H0 H locs) (hA : ∀ q, q ∈ L → A q) (k i t : Nat) {cA : ClassId} {Cn : String} {n : Nat} {f : Nat → Option Nat} (ht : (tyl E)[t]? = some (cA, .object Cn)) (he : ct k i = some (.inl (cA, n, .inr (.inr (.inr (.inr f)))))) {j : Nat} (hj : j < n) (hn : n < 2 ^ 31) (hdg : decode cc pc = .ok (.aastore, 1))
    (kk : ∀ (H1 : Heap) (locs1 : List Loc), PI E.1 L (ctu ct k i (.inl (cA, n, .inr (.inr (.inr (.inr (va_up f j none))))))) ad H1 → va_S A H0 H1 locs1 → W p l e R s m args below meth c H1 locs1 cells slots Q (F0 m (pc + 1) ls rest)) : W p l e R s m args below meth c H locs cells slots Q (F0 m pc ls (.null :: .int (nI j) :: .ref (ad k i) :: rest)) := by
  obtain ⟨f1, hP, hD, hm, hi⟩ := hX
  obtain ⟨g1, g2⟩ := hm k i _ he
  obtain ⟨q, hq⟩ := va_pl_get (X := []) (f := f1) g1
  rw [List.nil_append] at hq
  refine va_astqN (D := E.1) (cl := vwCl) (A := A) hx hb hC.1 hP (hD.weaken fun _ q _ h => hA q.1 h) hS q t (cA := cA) (C := Cn) (n := n) (f := f) (by rw [hq, g2]) ht (vp_in_nI hj hn) hdg fun H1 locs1 hP1 _ hS1 => ?_
  rw [nI_clamp (Nat.lt_trans hj hn)] at hP1
  exact kk H1 locs1 (PI.setAt hD hm hi he hq hP1) hS1
theorem pi_alen (hx : p.tables.exec = Jvm.exec) (hb : c.code = cc) (hC : Cs E s) (hX : PI E.1 L ct ad H) (k i t : Nat) {cA : ClassId} {ty : FieldType} {n : Nat} {z : _} (ht : (tyl E)[t]? = some (cA, ty)) (he : ct k i = some (.inl (cA, (n, z)))) (hdg : decode cc pc = .ok (.arraylength, 1))
    (kk : W p l e R s m args below meth c H locs cells slots Q (F0 m (pc + 1) ls (.int (nI n) :: rest))) : W p l e R s m args below meth c H locs cells slots Q (F0 m pc ls (.ref (ad k i) :: rest)) :=
  va_alen (D := E.1) (cl := vwCl) hx hb hC.1 (hX.one he) 0 t rfl ht rfl hdg kk
/-- two cells of one kind, compared -/
theorem pi_acmp_ne (hx : p.tables.exec = Jvm.exec) (hb : c.code = cc) (hX : PI E.1 L ct ad H) (k i k2 i2 : Nat) {e1 e2 : va_E} (he : ct k i = some e1) (he2 : ct k2 i2 = some e2) {off : Int} {tgt : Nat} (hdg : decode cc pc = .ok (.if_acmp .ne off, 3)) (ht : (pc : Int) + off = (tgt : Int))
    (kt : ¬ (k = k2 ∧ i = i2) → W p l e R s m args below meth c H locs cells slots Q (F0 m tgt ls rest)) (kf : (k = k2 ∧ i = i2) → W p l e R s m args below meth c H locs cells slots Q (F0 m (pc + 3) ls rest)) : W p l e R s m args below meth c H locs cells slots Q (F0 m pc ls (.ref (ad k2 i2) :: .ref (ad k i) :: rest)) := by
  refine lv_acmp_ne (rx := some (ad k i)) (ry := some (ad k2 i2)) hx hb hdg ht (fun q => kt fun z => ?_) (fun q => kf ?_)
  · exact q (by rw [z.1, z.2])
  · obtain ⟨f, hP, hD, hm, hi⟩ := hX
    exact hi k i k2 i2 e1 e2 he he2 (Option.some.inj q)
theorem pi_acmp_eq (hx : p.tables.exec = Jvm.exec) (hb : c.code = cc) (hX : PI E.1 L ct ad H) (k i k2 i2 : Nat) {e1 e2 : va_E} (he : ct k i = some e1) (he2 : ct k2 i2 = some e2) {off : Int} {tgt : Nat} (hdg : decode cc pc = .ok (.if_acmp .eq off, 3)) (ht : (pc : Int) + off = (tgt : Int))
    (kt : (k = k2 ∧ i = i2) → W p l e R s m args below meth c H locs cells slots Q (F0 m tgt ls rest)) (kf : ¬ (k = k2 ∧ i = i2) → W p l e R s m args below meth c H locs cells slots Q (F0 m (pc + 3) ls rest)) : W p l e R s m args below meth c H locs cells slots Q (F0 m pc ls (.ref (ad k2 i2) :: .ref (ad k i) :: rest)) := by
  refine lv_acmp_eq (rx := some (ad k i)) (ry := some (ad k2 i2)) hx hb hdg ht (fun q => kt ?_) (fun q => kf fun z => ?_)
  · obtain ⟨f, hP, hD, hm, hi⟩ := hX
    exact hi k i k2 i2 e1 e2 he he2 (Option.some.inj q)
  · exact q (by rw [z.1, z.2])
/-- the tables -/
theorem gt_get (hx : p.tables.exec = Jvm.exec) (hb : c.code = cc) {own C n : String} {k index : Nat} {f : Nat → Int32} (hG : Gt E C n k f s s.heap) (hS : va_S A s.heap H locs) (hAb : ∀ q, A q → bA E q) (hown : s.vm.findClass own = some m.cls) (hlink : (Cond.fieldLink own index C n "[I").before args s = true) (hdg : decode cc pc = .ok (.getstatic index, 3))
    (kk : W p l e R s m args below meth c H locs cells slots Q (F0 m (pc + 3) ls (.ref (E.2 k) :: rest))) : W p l e R s m args below meth c H locs cells slots Q (F0 m pc ls rest) :=
  va_gets hx hb (hG.1.narrow hAb) hS hown hlink (fun _ h => h) hdg kk
theorem gt_getN (hx : p.tables.exec = Jvm.exec) (hb : c.code = cc) {own C n host : String} {k index : Nat} {f : Nat → Int32} (hG : Gt E C n k f s s.heap) (hS : va_S A s.heap H locs) (hAb : ∀ q, A q → bA E q) (hown : s.vm.findClass own = some m.cls) (hlink : (Cond.fieldLinkNest own index C n "[I" host).before args s = true) (hdg : decode cc pc = .ok (.getstatic index, 3))
    (kk : W p l e R s m args below meth c H locs cells slots Q (F0 m (pc + 3) ls (.ref (E.2 k) :: rest))) : W p l e R s m args below meth c H locs cells slots Q (F0 m pc ls rest) :=
  va_getsN hx hb (hG.1.narrow hAb) hS hown hlink (fun _ h => h) hdg kk
theorem gt_ld (hx : p.tables.exec = Jvm.exec) (hb : c.code = cc) {C n : String} {k : Nat} {f : Nat → Int32} (hG : Gt E C n k f s s.heap) (hS : va_S A s.heap H locs) (hAb : ∀ q, A q → bA E q) {j : Nat} (hj : j < 4) (hdg : decode cc pc = .ok (.iaload, 1))
    (kk : W p l e R s m args below meth c H locs cells slots Q (F0 m (pc + 1) ls (.int (f j) :: rest))) : W p l e R s m args below meth c H locs cells slots Q (F0 m pc ls (.int (nI j) :: .ref (E.2 k) :: rest)) :=
  va_ti hx hb (hG.2.narrow hAb) hS (vp_in_nI hj (by decide)) (v := .int (f j)) (by rw [nI_clamp (by omega)]) hdg kk
/-- a cast that holds -/
theorem pi_cast (hx : p.tables.exec = Jvm.exec) (hb : c.code = cc) {own : String} {index ci N : Nat} {C nm : String} {T : u_T} (hC : Cs E s) (hown : s.vm.findClass own = some m.cls) (hX : PI E.1 L ct ad H) (k i : Nat) {fs : List Value} (he : ct k i = some (.inr (ci, fs))) (hc : vwCl[ci]? = some (C, T, N)) (hcl : .classLink own index C ∈ WG) (hdg : decode cc pc = .ok (.checkcast index, 3))
    (kk : W p l e R s m args below meth c H locs cells slots Q (F0 m (pc + 3) ls (.ref (ad k i) :: rest))) : W p l e R s m args below meth c H locs cells slots Q (F0 m pc ls (.ref (ad k i) :: rest)) :=
  va_castS (cC := E.1.1 ci) hx hb hown (hC.2.1.hts args _ hcl) (hC.1.1 ci _ hc).2 (va_recv hC.1 (hX.one he) (ci := ci) (q0 := 0) hc rfl) hdg kk
end RWB
