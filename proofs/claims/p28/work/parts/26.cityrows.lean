/-! writes into the city -/
def up2 {α : Type} (f : Nat → Nat → α) (a i : Nat) (v : α) : Nat → Nat → α := fun a' i' => if a' = a ∧ i' = i then v else f a' i'
theorem up2_same {α : Type} (f : Nat → Nat → α) (a i : Nat) (v : α) : up2 f a i v a i = v := if_pos ⟨rfl, rfl⟩
theorem up2_ne {α : Type} (f : Nat → Nat → α) {a i a' i' : Nat} (v : α) (h : ¬ (a' = a ∧ i' = i)) : up2 f a i v a' i' = f a' i' := if_neg h
theorem up2_a {α : Type} (f : Nat → Nat → α) {a i a' i' : Nat} (v : α) (h : a' ≠ a) : up2 f a i v a' i' = f a' i' := if_neg fun q => h q.1
/-- what a call may write: the city's cells, and new ones -/
def cA (L : List Nat) (H : Heap) : Nat → Prop := fun q => q ∈ L ∨ H.size ≤ q
theorem PX.kept {E : En} {c : Cy} {ly : Ly} {L : List Nat} {ad : Nat → Nat → Nat} {H H1 : Heap} (h : PX E c ly L ad H) (hk : ∀ q, q < H.size → q ∈ L → H1[q]? = H[q]?) : PX E c ly L ad H1 := ⟨h.1.kept hk, h.2⟩
theorem PM.kept {E : En} {c : Cy} {th : Int32} {ly : Ly} {L : List Nat} {ad : Nat → Nat → Nat} {H H1 : Heap} (h : PM E c th ly L ad H) (hk : ∀ q, q < H.size → q ∈ L → H1[q]? = H[q]?) : PM E c th ly L ad H1 := ⟨h.1.kept hk, h.2⟩
section WFU
variable {R : Nat → Nat → Nat} {I : Nat → Nat → Int32} {B : Nat → Nat → Bool} {Wr : Nat → Nat → Int32} {S : Nat → Nat → Option Nat}
theorem WF.uI (h : WF (R, I, B, Wr, S)) {a i : Nat} {v : Int32} (h1 : a ≠ 2 ∧ a ≠ 6 ∧ a ≠ 7) : WF (R, up2 I a i v, B, Wr, S) := by
  obtain ⟨g1, g2, g3, g4, g5, g6, g7, g8, g9, g10⟩ := h
  refine ⟨g1, g2, g3, g4, g5, g6, g7, g8, fun x hx => ?_, fun x hx => ?_⟩
  · have := g9 x hx
    show up2 I a i v 7 x = -1 ∨ ¬ up2 I a i v 6 x < 0
    rw [up2_a I v (Ne.symm h1.2.2), up2_a I v (Ne.symm h1.2.1)]
    exact this
  · have := g10 x hx
    show ∃ q : Nat, 1 ≤ q ∧ q ≤ 9 ∧ up2 I a i v 2 x = nI q
    rw [up2_a I v (Ne.symm h1.1)]
    exact this
theorem WF.uB (h : WF (R, I, B, Wr, S)) (B1 : Nat → Nat → Bool) : WF (R, I, B1, Wr, S) := h
theorem WF.uW (h : WF (R, I, B, Wr, S)) {a i : Nat} {v : Int32} (h1 : a < R 11 1 → i < R 11 1) : WF (R, I, B, up2 Wr a i v, S) := by
  obtain ⟨g1, g2, g3, g4, g5, g6, g7, g8, g9, g10⟩ := h
  refine ⟨g1, g2, g3, g4, g5, g6, g7, fun x k hx hk => ?_, g9, g10⟩
  show up2 Wr a i v x k = nI 0
  have hx2 : x < R 11 1 := hx
  have hk2 : R 11 1 ≤ k := hk
  rw [up2_ne Wr v (fun q => by have := h1 (by rw [← q.1]; exact hx2); omega)]
  exact g8 x k hx hk
theorem WF.uS (h : WF (R, I, B, Wr, S)) {a i : Nat} {v : Option Nat} (h1 : ∀ j, v = some j → j < R 11 2) : WF (R, I, B, Wr, up2 S a i v) := by
  obtain ⟨g1, g2, g3, g4, g5, g6, g7, g8, g9, g10⟩ := h
  refine ⟨g1, g2, g3, g4, g5, fun x k j hx hk hj => ?_, g7, g8, g9, g10⟩
  have hj2 : up2 S a i v x k = some j := hj
  unfold up2 at hj2
  split at hj2
  · exact h1 j hj2
  · exact g6 x k j hx hk hj2
/-- the minutes that a hand has used -/
theorem WF.uR3 (h : WF (R, I, B, Wr, S)) {i v : Nat} (h1 : v ≤ 360) : WF (up2 R 3 i v, I, B, Wr, S) := by
  obtain ⟨g1, g2, g3, g4, g5, g6, g7, g8, g9, g10⟩ := h
  refine ⟨g1, g2, g3, fun x hx => ⟨?_, (g4 x hx).2⟩, g5, g6, g7, g8, g9, g10⟩
  show up2 R 3 i v 3 x ≤ 360
  unfold up2
  split
  · exact h1
  · exact (g4 x hx).1
/-- the night -/
theorem WF.uR0 (h : WF (R, I, B, Wr, S)) {v : Nat} (h1 : v ≤ 400) : WF (up2 R 0 0 v, I, B, Wr, S) := by
  obtain ⟨g1, g2, g3, g4, g5, g6, g7, g8, g9, g10⟩ := h
  exact ⟨g1, g2, g3, g4, g5, g6, h1, g8, g9, g10⟩
end WFU
section PWR
variable {p : Program} {l : Launch} {e : Env} {Rm : Room} {s : State} {m : MethodId} {args : Array Value} {below : List Frame} {meth : Method} {co : Code} {H H0 : Heap} {locs : List Loc} {cells slots : Nat} {Q : State → Prop}
variable {cc : ByteArray} {pc : Nat} {ls : Array Slot} {rest : List Value} {E : En} {L : List Nat} {ad : Nat → Nat → Nat} {A : Nat → Prop} {own ref C : String} {index N : Nat} {T : u_T} {ly : Ly} {th : Int32}
variable {R : Nat → Nat → Nat} {I : Nat → Nat → Int32} {B : Nat → Nat → Bool} {Wr : Nat → Nat → Int32} {S : Nat → Nat → Option Nat}
/-- beside other cells -/
theorem pi_putQ {c : Code} {ct : Nat → Nat → Option va_E} {L2 : List Nat} {ct2 : Nat → Nat → Option va_E} {ad2 : Nat → Nat → Nat} (hI : PI E.1 L2 ct2 ad2 H) (hLL : ∀ q, q ∈ L2 → q ∉ L) (hA2 : ∀ q, q ∈ L2 → A q) (hx : p.tables.exec = Jvm.exec) (hb : c.code = cc) {ci n : Nat} {ty : FieldType} (hC : Cs E s) (hown : s.vm.findClass own = some m.cls) (hX : PI E.1 L ct ad H) (hS : va_S A H0 H locs) (hA : ∀ q, q ∈ L → A q) (hf : FP own ref index ci C T N n ty) (k i : Nat) {fs : List Value} (he : ct k i = some (.inr (ci, fs))) {v : Value} (hn : narrow ty v = v) (hfit : fits ty v = true) (hl : n < fs.length) (hdg : decode cc pc = .ok (.putfield index, 3))
    (kk : ∀ (H1 : Heap) (locs1 : List Loc), PI E.1 L (ctu ct k i (.inr (ci, fs.set n v))) ad H1 → PI E.1 L2 ct2 ad2 H1 → va_S A H0 H1 locs1 → W p l e Rm s m args below meth c H1 locs1 cells slots Q (F0 m (pc + 3) ls rest)) : W p l e Rm s m args below meth c H locs cells slots Q (F0 m pc ls (v :: .ref (ad k i) :: rest)) := by
  obtain ⟨⟨h1, h2, h3, h4, h5⟩, ⟨ty0, h6⟩, h7, h8, h9⟩ := hf
  obtain ⟨f, hP, hD, hm, hi⟩ := hX
  obtain ⟨f2, hP2, hD2, hm2, hi2⟩ := hI
  obtain ⟨g1, g2⟩ := hm k i _ he
  obtain ⟨j, hj⟩ := va_pl_get (X := []) (f := f) g1
  rw [List.nil_append] at hj
  have hjl := (List.getElem?_eq_some_iff.mp hj).1
  refine va_put (D := E.1) (cl := vwCl) (A := A) (ws := va_pl L f ++ va_pl L2 f2) hx hb (hC.2.1.hts args) h3 ty0 h6 h7 hown hC.1 (hP.app hP2) ((hD.weaken fun _ q _ h => hA q.1 h).app (hD2.weaken fun _ q _ h => hA2 q.1 h) fun a b x y hx hy exy => hLL _ (hD2.2 b y hy) (by rw [← exy]; exact hD.2 a x hx)) hS j (fs := fs) (by rw [List.getElem?_append_left hjl, hj, g2]) h1 n h2 (hC.2.1.hts args _ h4) (fun x q => by rw [← h5]; exact q) h8 h9 hn hfit hl hdg fun H1 locs1 hP1 _ hS1 => ?_
  rw [List.set_append_left _ _ hjl] at hP1
  refine kk H1 locs1 (PI.setAt hD hm hi he hj fun a x hx => ?_) ⟨f2, fun a x hx => ?_, hD2, hm2, hi2⟩ hS1
  · exact hP1 a x (by rw [List.getElem?_append_left (List.getElem?_eq_some_iff.mp hx).1]; exact hx)
  · exact hP1 (((va_pl L f).set j (ad k i, .inr (ci, fs.set n v))).length + a) x (by rw [List.getElem?_append_right (by omega)]; simpa using hx)
theorem pwX_tonight (hx : p.tables.exec = Jvm.exec) (hb : co.code = cc) (hC : Cs E s) (hown : s.vm.findClass own = some m.cls) (hX : PX E (R, I, B, Wr, S) ly L ad H) (hS : va_S A H0 H locs) (hA : ∀ q, q ∈ L → A q) (hf : FP own ref index 5 C T N 3 .int) {v : Nat} (hw : WF (up2 R 0 0 v, I, B, Wr, S)) (hdg : decode cc pc = .ok (.putfield index, 3))
    (kk : ∀ (H1 : Heap) (locs1 : List Loc), PX E (up2 R 0 0 v, I, B, Wr, S) ly L ad H1 → va_S A H0 H1 locs1 → W p l e Rm s m args below meth co H1 locs1 cells slots Q (F0 m (pc + 3) ls rest)) : W p l e Rm s m args below meth co H locs cells slots Q (F0 m pc ls (.int (nI v) :: .ref (ad 0 0) :: rest)) := by
  refine pi_put hx hb hC hown hX.1 hS hA hf 0 0 (cX_0) rfl rfl (Nat.le_of_ble_eq_true rfl) hdg (fun H1 locs1 hP1 hS1 => kk H1 locs1 ?_ hS1)
  refine ⟨hP1.ext fun k z => ?_, hX.2.1, hX.2.2.1, hw⟩
  exact by
    unfold ctu
    by_cases q : k = 0 ∧ z = 0
    · rw [if_pos q, q.1, q.2, show cX E (up2 R 0 0 v, I, B, Wr, S) ly ad 0 0 = _ from cX_0]
      simp [xRo, xWa, xSh, xHa, xWr, xLa, oLs, oLa, up2, va_up, upd, shI, Cy.R, Cy.I, Cy.B, Cy.Wr, Cy.sh] <;> rfl
    · rw [if_neg q]
      rcases k with _ | _ | _ | _ | _ | _ | _ | _ | k <;> first | rfl | (have q1 : ¬ z = 0 := fun w => q ⟨rfl, w⟩
                                                                         simp [cX, xRo, xWa, xSh, xHa, xWr, xLa, oLs, oLa, up2, q1, shI, Cy.R, Cy.I, Cy.B, Cy.Wr, Cy.sh] <;> rfl)
theorem pwX_coins (hx : p.tables.exec = Jvm.exec) (hb : co.code = cc) (hC : Cs E s) (hown : s.vm.findClass own = some m.cls) (hX : PX E (R, I, B, Wr, S) ly L ad H) (hS : va_S A H0 H locs) (hA : ∀ q, q ∈ L → A q) (hf : FP own ref index 5 C T N 4 .int) {v : Int32} (hw : WF (R, up2 I 0 0 v, B, Wr, S)) (hdg : decode cc pc = .ok (.putfield index, 3))
    (kk : ∀ (H1 : Heap) (locs1 : List Loc), PX E (R, up2 I 0 0 v, B, Wr, S) ly L ad H1 → va_S A H0 H1 locs1 → W p l e Rm s m args below meth co H1 locs1 cells slots Q (F0 m (pc + 3) ls rest)) : W p l e Rm s m args below meth co H locs cells slots Q (F0 m pc ls (.int v :: .ref (ad 0 0) :: rest)) := by
  refine pi_put hx hb hC hown hX.1 hS hA hf 0 0 (cX_0) rfl rfl (Nat.le_of_ble_eq_true rfl) hdg (fun H1 locs1 hP1 hS1 => kk H1 locs1 ?_ hS1)
  refine ⟨hP1.ext fun k z => ?_, hX.2.1, hX.2.2.1, hw⟩
  exact by
    unfold ctu
    by_cases q : k = 0 ∧ z = 0
    · rw [if_pos q, q.1, q.2, show cX E (R, up2 I 0 0 v, B, Wr, S) ly ad 0 0 = _ from cX_0]
      simp [xRo, xWa, xSh, xHa, xWr, xLa, oLs, oLa, up2, va_up, upd, shI, Cy.R, Cy.I, Cy.B, Cy.Wr, Cy.sh] <;> rfl
    · rw [if_neg q]
      rcases k with _ | _ | _ | _ | _ | _ | _ | _ | k <;> first | rfl | (have q1 : ¬ z = 0 := fun w => q ⟨rfl, w⟩
                                                                         simp [cX, xRo, xWa, xSh, xHa, xWr, xLa, oLs, oLa, up2, q1, shI, Cy.R, Cy.I, Cy.B, Cy.Wr, Cy.sh] <;> rfl)
theorem pwX_soldFor (hx : p.tables.exec = Jvm.exec) (hb : co.code = cc) (hC : Cs E s) (hown : s.vm.findClass own = some m.cls) (hX : PX E (R, I, B, Wr, S) ly L ad H) (hS : va_S A H0 H locs) (hA : ∀ q, q ∈ L → A q) (hf : FP own ref index 5 C T N 5 .int) {v : Int32} (hw : WF (R, up2 I 1 0 v, B, Wr, S)) (hdg : decode cc pc = .ok (.putfield index, 3))
    (kk : ∀ (H1 : Heap) (locs1 : List Loc), PX E (R, up2 I 1 0 v, B, Wr, S) ly L ad H1 → va_S A H0 H1 locs1 → W p l e Rm s m args below meth co H1 locs1 cells slots Q (F0 m (pc + 3) ls rest)) : W p l e Rm s m args below meth co H locs cells slots Q (F0 m pc ls (.int v :: .ref (ad 0 0) :: rest)) := by
  refine pi_put hx hb hC hown hX.1 hS hA hf 0 0 (cX_0) rfl rfl (Nat.le_of_ble_eq_true rfl) hdg (fun H1 locs1 hP1 hS1 => kk H1 locs1 ?_ hS1)
  refine ⟨hP1.ext fun k z => ?_, hX.2.1, hX.2.2.1, hw⟩
  exact by
    unfold ctu
    by_cases q : k = 0 ∧ z = 0
    · rw [if_pos q, q.1, q.2, show cX E (R, up2 I 1 0 v, B, Wr, S) ly ad 0 0 = _ from cX_0]
      simp [xRo, xWa, xSh, xHa, xWr, xLa, oLs, oLa, up2, va_up, upd, shI, Cy.R, Cy.I, Cy.B, Cy.Wr, Cy.sh] <;> rfl
    · rw [if_neg q]
      rcases k with _ | _ | _ | _ | _ | _ | _ | _ | k <;> first | rfl | (have q1 : ¬ z = 0 := fun w => q ⟨rfl, w⟩
                                                                         simp [cX, xRo, xWa, xSh, xHa, xWr, xLa, oLs, oLa, up2, q1, shI, Cy.R, Cy.I, Cy.B, Cy.Wr, Cy.sh] <;> rfl)
theorem pwX_permitCrew (hx : p.tables.exec = Jvm.exec) (hb : co.code = cc) (hC : Cs E s) (hown : s.vm.findClass own = some m.cls) (hX : PX E (R, I, B, Wr, S) ly L ad H) (hS : va_S A H0 H locs) (hA : ∀ q, q ∈ L → A q) (hf : FP own ref index 4 C T N 6 .int) (i : Nat) (hi : i < R 11 0) {v : Int32} (hw : WF (R, up2 I 4 i v, B, Wr, S)) (hdg : decode cc pc = .ok (.putfield index, 3))
    (kk : ∀ (H1 : Heap) (locs1 : List Loc), PX E (R, up2 I 4 i v, B, Wr, S) ly L ad H1 → va_S A H0 H1 locs1 → W p l e Rm s m args below meth co H1 locs1 cells slots Q (F0 m (pc + 3) ls rest)) : W p l e Rm s m args below meth co H locs cells slots Q (F0 m pc ls (.int v :: .ref (ad 3 i) :: rest)) := by
  refine pi_put hx hb hC hown hX.1 hS hA hf 3 i (cX_3 hi) rfl rfl (Nat.le_of_ble_eq_true rfl) hdg (fun H1 locs1 hP1 hS1 => kk H1 locs1 ?_ hS1)
  refine ⟨hP1.ext fun k z => ?_, hX.2.1, hX.2.2.1, hw⟩
  exact by
    unfold ctu
    by_cases q : k = 3 ∧ z = i
    · rw [if_pos q, q.1, q.2, show cX E (R, up2 I 4 i v, B, Wr, S) ly ad 3 i = _ from cX_3 hi]
      simp [xRo, xWa, xSh, xHa, xWr, xLa, oLs, oLa, up2, va_up, upd, shI, Cy.R, Cy.I, Cy.B, Cy.Wr, Cy.sh] <;> rfl
    · rw [if_neg q]
      rcases k with _ | _ | _ | _ | _ | _ | _ | _ | k <;> first | rfl | (have q1 : ¬ z = i := fun w => q ⟨rfl, w⟩
                                                                         simp [cX, xRo, xWa, xSh, xHa, xWr, xLa, oLs, oLa, up2, q1, shI, Cy.R, Cy.I, Cy.B, Cy.Wr, Cy.sh] <;> rfl)
theorem pwX_permitUpTo (hx : p.tables.exec = Jvm.exec) (hb : co.code = cc) (hC : Cs E s) (hown : s.vm.findClass own = some m.cls) (hX : PX E (R, I, B, Wr, S) ly L ad H) (hS : va_S A H0 H locs) (hA : ∀ q, q ∈ L → A q) (hf : FP own ref index 4 C T N 7 .int) (i : Nat) (hi : i < R 11 0) {v : Int32} (hw : WF (R, up2 I 5 i v, B, Wr, S)) (hdg : decode cc pc = .ok (.putfield index, 3))
    (kk : ∀ (H1 : Heap) (locs1 : List Loc), PX E (R, up2 I 5 i v, B, Wr, S) ly L ad H1 → va_S A H0 H1 locs1 → W p l e Rm s m args below meth co H1 locs1 cells slots Q (F0 m (pc + 3) ls rest)) : W p l e Rm s m args below meth co H locs cells slots Q (F0 m pc ls (.int v :: .ref (ad 3 i) :: rest)) := by
  refine pi_put hx hb hC hown hX.1 hS hA hf 3 i (cX_3 hi) rfl rfl (Nat.le_of_ble_eq_true rfl) hdg (fun H1 locs1 hP1 hS1 => kk H1 locs1 ?_ hS1)
  refine ⟨hP1.ext fun k z => ?_, hX.2.1, hX.2.2.1, hw⟩
  exact by
    unfold ctu
    by_cases q : k = 3 ∧ z = i
    · rw [if_pos q, q.1, q.2, show cX E (R, up2 I 5 i v, B, Wr, S) ly ad 3 i = _ from cX_3 hi]
      simp [xRo, xWa, xSh, xHa, xWr, xLa, oLs, oLa, up2, va_up, upd, shI, Cy.R, Cy.I, Cy.B, Cy.Wr, Cy.sh] <;> rfl
    · rw [if_neg q]
      rcases k with _ | _ | _ | _ | _ | _ | _ | _ | k <;> first | rfl | (have q1 : ¬ z = i := fun w => q ⟨rfl, w⟩
                                                                         simp [cX, xRo, xWa, xSh, xHa, xWr, xLa, oLs, oLa, up2, q1, shI, Cy.R, Cy.I, Cy.B, Cy.Wr, Cy.sh] <;> rfl)
theorem pwX_watchFrom (hx : p.tables.exec = Jvm.exec) (hb : co.code = cc) (hC : Cs E s) (hown : s.vm.findClass own = some m.cls) (hX : PX E (R, I, B, Wr, S) ly L ad H) (hS : va_S A H0 H locs) (hA : ∀ q, q ∈ L → A q) (hf : FP own ref index 4 C T N 8 .int) (i : Nat) (hi : i < R 11 0) {v : Int32} (hw : WF (R, up2 I 6 i v, B, Wr, S)) (hdg : decode cc pc = .ok (.putfield index, 3))
    (kk : ∀ (H1 : Heap) (locs1 : List Loc), PX E (R, up2 I 6 i v, B, Wr, S) ly L ad H1 → va_S A H0 H1 locs1 → W p l e Rm s m args below meth co H1 locs1 cells slots Q (F0 m (pc + 3) ls rest)) : W p l e Rm s m args below meth co H locs cells slots Q (F0 m pc ls (.int v :: .ref (ad 3 i) :: rest)) := by
  refine pi_put hx hb hC hown hX.1 hS hA hf 3 i (cX_3 hi) rfl rfl (Nat.le_of_ble_eq_true rfl) hdg (fun H1 locs1 hP1 hS1 => kk H1 locs1 ?_ hS1)
  refine ⟨hP1.ext fun k z => ?_, hX.2.1, hX.2.2.1, hw⟩
  exact by
    unfold ctu
    by_cases q : k = 3 ∧ z = i
    · rw [if_pos q, q.1, q.2, show cX E (R, up2 I 6 i v, B, Wr, S) ly ad 3 i = _ from cX_3 hi]
      simp [xRo, xWa, xSh, xHa, xWr, xLa, oLs, oLa, up2, va_up, upd, shI, Cy.R, Cy.I, Cy.B, Cy.Wr, Cy.sh] <;> rfl
    · rw [if_neg q]
      rcases k with _ | _ | _ | _ | _ | _ | _ | _ | k <;> first | rfl | (have q1 : ¬ z = i := fun w => q ⟨rfl, w⟩
                                                                         simp [cX, xRo, xWa, xSh, xHa, xWr, xLa, oLs, oLa, up2, q1, shI, Cy.R, Cy.I, Cy.B, Cy.Wr, Cy.sh] <;> rfl)
theorem pwX_watchTo (hx : p.tables.exec = Jvm.exec) (hb : co.code = cc) (hC : Cs E s) (hown : s.vm.findClass own = some m.cls) (hX : PX E (R, I, B, Wr, S) ly L ad H) (hS : va_S A H0 H locs) (hA : ∀ q, q ∈ L → A q) (hf : FP own ref index 4 C T N 9 .int) (i : Nat) (hi : i < R 11 0) {v : Int32} (hw : WF (R, up2 I 7 i v, B, Wr, S)) (hdg : decode cc pc = .ok (.putfield index, 3))
    (kk : ∀ (H1 : Heap) (locs1 : List Loc), PX E (R, up2 I 7 i v, B, Wr, S) ly L ad H1 → va_S A H0 H1 locs1 → W p l e Rm s m args below meth co H1 locs1 cells slots Q (F0 m (pc + 3) ls rest)) : W p l e Rm s m args below meth co H locs cells slots Q (F0 m pc ls (.int v :: .ref (ad 3 i) :: rest)) := by
  refine pi_put hx hb hC hown hX.1 hS hA hf 3 i (cX_3 hi) rfl rfl (Nat.le_of_ble_eq_true rfl) hdg (fun H1 locs1 hP1 hS1 => kk H1 locs1 ?_ hS1)
  refine ⟨hP1.ext fun k z => ?_, hX.2.1, hX.2.2.1, hw⟩
  exact by
    unfold ctu
    by_cases q : k = 3 ∧ z = i
    · rw [if_pos q, q.1, q.2, show cX E (R, up2 I 7 i v, B, Wr, S) ly ad 3 i = _ from cX_3 hi]
      simp [xRo, xWa, xSh, xHa, xWr, xLa, oLs, oLa, up2, va_up, upd, shI, Cy.R, Cy.I, Cy.B, Cy.Wr, Cy.sh] <;> rfl
    · rw [if_neg q]
      rcases k with _ | _ | _ | _ | _ | _ | _ | _ | k <;> first | rfl | (have q1 : ¬ z = i := fun w => q ⟨rfl, w⟩
                                                                         simp [cX, xRo, xWa, xSh, xHa, xWr, xLa, oLs, oLa, up2, q1, shI, Cy.R, Cy.I, Cy.B, Cy.Wr, Cy.sh] <;> rfl)
theorem pwX_minutesUsed (hx : p.tables.exec = Jvm.exec) (hb : co.code = cc) (hC : Cs E s) (hown : s.vm.findClass own = some m.cls) (hX : PX E (R, I, B, Wr, S) ly L ad H) (hS : va_S A H0 H locs) (hA : ∀ q, q ∈ L → A q) (hf : FP own ref index 2 C T N 6 .int) (i : Nat) (hi : i < R 11 1) {v : Nat} (hw : WF (up2 R 3 i v, I, B, Wr, S)) (hdg : decode cc pc = .ok (.putfield index, 3))
    (kk : ∀ (H1 : Heap) (locs1 : List Loc), PX E (up2 R 3 i v, I, B, Wr, S) ly L ad H1 → va_S A H0 H1 locs1 → W p l e Rm s m args below meth co H1 locs1 cells slots Q (F0 m (pc + 3) ls rest)) : W p l e Rm s m args below meth co H locs cells slots Q (F0 m pc ls (.int (nI v) :: .ref (ad 5 i) :: rest)) := by
  refine pi_put hx hb hC hown hX.1 hS hA hf 5 i (cX_5 hi) rfl rfl (Nat.le_of_ble_eq_true rfl) hdg (fun H1 locs1 hP1 hS1 => kk H1 locs1 ?_ hS1)
  refine ⟨hP1.ext fun k z => ?_, hX.2.1, hX.2.2.1, hw⟩
  exact by
    unfold ctu
    by_cases q : k = 5 ∧ z = i
    · rw [if_pos q, q.1, q.2, show cX E (up2 R 3 i v, I, B, Wr, S) ly ad 5 i = _ from cX_5 hi]
      simp [xRo, xWa, xSh, xHa, xWr, xLa, oLs, oLa, up2, va_up, upd, shI, Cy.R, Cy.I, Cy.B, Cy.Wr, Cy.sh] <;> rfl
    · rw [if_neg q]
      rcases k with _ | _ | _ | _ | _ | _ | _ | _ | k <;> first | rfl | (have q1 : ¬ z = i := fun w => q ⟨rfl, w⟩
                                                                         simp [cX, xRo, xWa, xSh, xHa, xWr, xLa, oLs, oLa, up2, q1, shI, Cy.R, Cy.I, Cy.B, Cy.Wr, Cy.sh] <;> rfl)
theorem pwX_fines (hx : p.tables.exec = Jvm.exec) (hb : co.code = cc) (hC : Cs E s) (hown : s.vm.findClass own = some m.cls) (hX : PX E (R, I, B, Wr, S) ly L ad H) (hS : va_S A H0 H locs) (hA : ∀ q, q ∈ L → A q) (hf : FP own ref index 2 C T N 7 .int) (i : Nat) (hi : i < R 11 1) {v : Int32} (hw : WF (R, up2 I 11 i v, B, Wr, S)) (hdg : decode cc pc = .ok (.putfield index, 3))
    (kk : ∀ (H1 : Heap) (locs1 : List Loc), PX E (R, up2 I 11 i v, B, Wr, S) ly L ad H1 → va_S A H0 H1 locs1 → W p l e Rm s m args below meth co H1 locs1 cells slots Q (F0 m (pc + 3) ls rest)) : W p l e Rm s m args below meth co H locs cells slots Q (F0 m pc ls (.int v :: .ref (ad 5 i) :: rest)) := by
  refine pi_put hx hb hC hown hX.1 hS hA hf 5 i (cX_5 hi) rfl rfl (Nat.le_of_ble_eq_true rfl) hdg (fun H1 locs1 hP1 hS1 => kk H1 locs1 ?_ hS1)
  refine ⟨hP1.ext fun k z => ?_, hX.2.1, hX.2.2.1, hw⟩
  exact by
    unfold ctu
    by_cases q : k = 5 ∧ z = i
    · rw [if_pos q, q.1, q.2, show cX E (R, up2 I 11 i v, B, Wr, S) ly ad 5 i = _ from cX_5 hi]
      simp [xRo, xWa, xSh, xHa, xWr, xLa, oLs, oLa, up2, va_up, upd, shI, Cy.R, Cy.I, Cy.B, Cy.Wr, Cy.sh] <;> rfl
    · rw [if_neg q]
      rcases k with _ | _ | _ | _ | _ | _ | _ | _ | k <;> first | rfl | (have q1 : ¬ z = i := fun w => q ⟨rfl, w⟩
                                                                         simp [cX, xRo, xWa, xSh, xHa, xWr, xLa, oLs, oLa, up2, q1, shI, Cy.R, Cy.I, Cy.B, Cy.Wr, Cy.sh] <;> rfl)
theorem pwX_known (hx : p.tables.exec = Jvm.exec) (hb : co.code = cc) (hC : Cs E s) (hown : s.vm.findClass own = some m.cls) (hX : PX E (R, I, B, Wr, S) ly L ad H) (hS : va_S A H0 H locs) (hA : ∀ q, q ∈ L → A q) (hf : FP own ref index 2 C T N 8 .boolean) (i : Nat) (hi : i < R 11 1) {v : Bool} (hw : WF (R, I, up2 B 0 i v, Wr, S)) (hdg : decode cc pc = .ok (.putfield index, 3))
    (kk : ∀ (H1 : Heap) (locs1 : List Loc), PX E (R, I, up2 B 0 i v, Wr, S) ly L ad H1 → va_S A H0 H1 locs1 → W p l e Rm s m args below meth co H1 locs1 cells slots Q (F0 m (pc + 3) ls rest)) : W p l e Rm s m args below meth co H locs cells slots Q (F0 m pc ls (.int (bI v) :: .ref (ad 5 i) :: rest)) := by
  refine pi_put hx hb hC hown hX.1 hS hA hf 5 i (cX_5 hi) (bI_nar v) (bI_fit v) (Nat.le_of_ble_eq_true rfl) hdg (fun H1 locs1 hP1 hS1 => kk H1 locs1 ?_ hS1)
  refine ⟨hP1.ext fun k z => ?_, hX.2.1, hX.2.2.1, hw⟩
  exact by
    unfold ctu
    by_cases q : k = 5 ∧ z = i
    · rw [if_pos q, q.1, q.2, show cX E (R, I, up2 B 0 i v, Wr, S) ly ad 5 i = _ from cX_5 hi]
      simp [xRo, xWa, xSh, xHa, xWr, xLa, oLs, oLa, up2, va_up, upd, shI, Cy.R, Cy.I, Cy.B, Cy.Wr, Cy.sh] <;> rfl
    · rw [if_neg q]
      rcases k with _ | _ | _ | _ | _ | _ | _ | _ | k <;> first | rfl | (have q1 : ¬ z = i := fun w => q ⟨rfl, w⟩
                                                                         simp [cX, xRo, xWa, xSh, xHa, xWr, xLa, oLs, oLa, up2, q1, shI, Cy.R, Cy.I, Cy.B, Cy.Wr, Cy.sh] <;> rfl)
theorem pwX_timesCaught (hx : p.tables.exec = Jvm.exec) (hb : co.code = cc) (hC : Cs E s) (hown : s.vm.findClass own = some m.cls) (hX : PX E (R, I, B, Wr, S) ly L ad H) (hS : va_S A H0 H locs) (hA : ∀ q, q ∈ L → A q) (hf : FP own ref index 2 C T N 9 .int) (i : Nat) (hi : i < R 11 1) {v : Int32} (hw : WF (R, up2 I 13 i v, B, Wr, S)) (hdg : decode cc pc = .ok (.putfield index, 3))
    (kk : ∀ (H1 : Heap) (locs1 : List Loc), PX E (R, up2 I 13 i v, B, Wr, S) ly L ad H1 → va_S A H0 H1 locs1 → W p l e Rm s m args below meth co H1 locs1 cells slots Q (F0 m (pc + 3) ls rest)) : W p l e Rm s m args below meth co H locs cells slots Q (F0 m pc ls (.int v :: .ref (ad 5 i) :: rest)) := by
  refine pi_put hx hb hC hown hX.1 hS hA hf 5 i (cX_5 hi) rfl rfl (Nat.le_of_ble_eq_true rfl) hdg (fun H1 locs1 hP1 hS1 => kk H1 locs1 ?_ hS1)
  refine ⟨hP1.ext fun k z => ?_, hX.2.1, hX.2.2.1, hw⟩
  exact by
    unfold ctu
    by_cases q : k = 5 ∧ z = i
    · rw [if_pos q, q.1, q.2, show cX E (R, up2 I 13 i v, B, Wr, S) ly ad 5 i = _ from cX_5 hi]
      simp [xRo, xWa, xSh, xHa, xWr, xLa, oLs, oLa, up2, va_up, upd, shI, Cy.R, Cy.I, Cy.B, Cy.Wr, Cy.sh] <;> rfl
    · rw [if_neg q]
      rcases k with _ | _ | _ | _ | _ | _ | _ | _ | k <;> first | rfl | (have q1 : ¬ z = i := fun w => q ⟨rfl, w⟩
                                                                         simp [cX, xRo, xWa, xSh, xHa, xWr, xLa, oLs, oLa, up2, q1, shI, Cy.R, Cy.I, Cy.B, Cy.Wr, Cy.sh] <;> rfl)
theorem pwX_owed (hx : p.tables.exec = Jvm.exec) (hb : co.code = cc) (hC : Cs E s) (hown : s.vm.findClass own = some m.cls) (hX : PX E (R, I, B, Wr, S) ly L ad H) (hS : va_S A H0 H locs) (hA : ∀ q, q ∈ L → A q) (hf : FP own ref index 2 C T N 10 .int) (i : Nat) (hi : i < R 11 1) {v : Int32} (hw : WF (R, up2 I 14 i v, B, Wr, S)) (hdg : decode cc pc = .ok (.putfield index, 3))
    (kk : ∀ (H1 : Heap) (locs1 : List Loc), PX E (R, up2 I 14 i v, B, Wr, S) ly L ad H1 → va_S A H0 H1 locs1 → W p l e Rm s m args below meth co H1 locs1 cells slots Q (F0 m (pc + 3) ls rest)) : W p l e Rm s m args below meth co H locs cells slots Q (F0 m pc ls (.int v :: .ref (ad 5 i) :: rest)) := by
  refine pi_put hx hb hC hown hX.1 hS hA hf 5 i (cX_5 hi) rfl rfl (Nat.le_of_ble_eq_true rfl) hdg (fun H1 locs1 hP1 hS1 => kk H1 locs1 ?_ hS1)
  refine ⟨hP1.ext fun k z => ?_, hX.2.1, hX.2.2.1, hw⟩
  exact by
    unfold ctu
    by_cases q : k = 5 ∧ z = i
    · rw [if_pos q, q.1, q.2, show cX E (R, up2 I 14 i v, B, Wr, S) ly ad 5 i = _ from cX_5 hi]
      simp [xRo, xWa, xSh, xHa, xWr, xLa, oLs, oLa, up2, va_up, upd, shI, Cy.R, Cy.I, Cy.B, Cy.Wr, Cy.sh] <;> rfl
    · rw [if_neg q]
      rcases k with _ | _ | _ | _ | _ | _ | _ | _ | k <;> first | rfl | (have q1 : ¬ z = i := fun w => q ⟨rfl, w⟩
                                                                         simp [cX, xRo, xWa, xSh, xHa, xWr, xLa, oLs, oLa, up2, q1, shI, Cy.R, Cy.I, Cy.B, Cy.Wr, Cy.sh] <;> rfl)
theorem pwX_night (hx : p.tables.exec = Jvm.exec) (hb : co.code = cc) (hC : Cs E s) (hown : s.vm.findClass own = some m.cls) (hX : PX E (R, I, B, Wr, S) ly L ad H) (hS : va_S A H0 H locs) (hA : ∀ q, q ∈ L → A q) (hf : FP own ref index 3 C T N 7 .int) (i : Nat) (hi : i < R 11 2) {v : Int32} (hw : WF (R, up2 I 16 i v, B, Wr, S)) (hdg : decode cc pc = .ok (.putfield index, 3))
    (kk : ∀ (H1 : Heap) (locs1 : List Loc), PX E (R, up2 I 16 i v, B, Wr, S) ly L ad H1 → va_S A H0 H1 locs1 → W p l e Rm s m args below meth co H1 locs1 cells slots Q (F0 m (pc + 3) ls rest)) : W p l e Rm s m args below meth co H locs cells slots Q (F0 m pc ls (.int v :: .ref (ad 7 i) :: rest)) := by
  refine pi_put hx hb hC hown hX.1 hS hA hf 7 i (cX_7 hi) rfl rfl (Nat.le_of_ble_eq_true rfl) hdg (fun H1 locs1 hP1 hS1 => kk H1 locs1 ?_ hS1)
  refine ⟨hP1.ext fun k z => ?_, hX.2.1, hX.2.2.1, hw⟩
  exact by
    unfold ctu
    by_cases q : k = 7 ∧ z = i
    · rw [if_pos q, q.1, q.2, show cX E (R, up2 I 16 i v, B, Wr, S) ly ad 7 i = _ from cX_7 hi]
      simp [xRo, xWa, xSh, xHa, xWr, xLa, oLs, oLa, up2, va_up, upd, shI, Cy.R, Cy.I, Cy.B, Cy.Wr, Cy.sh] <;> rfl
    · rw [if_neg q]
      rcases k with _ | _ | _ | _ | _ | _ | _ | _ | k <;> first | rfl | (have q1 : ¬ z = i := fun w => q ⟨rfl, w⟩
                                                                         simp [cX, xRo, xWa, xSh, xHa, xWr, xLa, oLs, oLa, up2, q1, shI, Cy.R, Cy.I, Cy.B, Cy.Wr, Cy.sh] <;> rfl)
theorem pwX_legal (hx : p.tables.exec = Jvm.exec) (hb : co.code = cc) (hC : Cs E s) (hown : s.vm.findClass own = some m.cls) (hX : PX E (R, I, B, Wr, S) ly L ad H) (hS : va_S A H0 H locs) (hA : ∀ q, q ∈ L → A q) (hf : FP own ref index 3 C T N 8 .boolean) (i : Nat) (hi : i < R 11 2) {v : Bool} (hw : WF (R, I, up2 B 1 i v, Wr, S)) (hdg : decode cc pc = .ok (.putfield index, 3))
    (kk : ∀ (H1 : Heap) (locs1 : List Loc), PX E (R, I, up2 B 1 i v, Wr, S) ly L ad H1 → va_S A H0 H1 locs1 → W p l e Rm s m args below meth co H1 locs1 cells slots Q (F0 m (pc + 3) ls rest)) : W p l e Rm s m args below meth co H locs cells slots Q (F0 m pc ls (.int (bI v) :: .ref (ad 7 i) :: rest)) := by
  refine pi_put hx hb hC hown hX.1 hS hA hf 7 i (cX_7 hi) (bI_nar v) (bI_fit v) (Nat.le_of_ble_eq_true rfl) hdg (fun H1 locs1 hP1 hS1 => kk H1 locs1 ?_ hS1)
  refine ⟨hP1.ext fun k z => ?_, hX.2.1, hX.2.2.1, hw⟩
  exact by
    unfold ctu
    by_cases q : k = 7 ∧ z = i
    · rw [if_pos q, q.1, q.2, show cX E (R, I, up2 B 1 i v, Wr, S) ly ad 7 i = _ from cX_7 hi]
      simp [xRo, xWa, xSh, xHa, xWr, xLa, oLs, oLa, up2, va_up, upd, shI, Cy.R, Cy.I, Cy.B, Cy.Wr, Cy.sh] <;> rfl
    · rw [if_neg q]
      rcases k with _ | _ | _ | _ | _ | _ | _ | _ | k <;> first | rfl | (have q1 : ¬ z = i := fun w => q ⟨rfl, w⟩
                                                                         simp [cX, xRo, xWa, xSh, xHa, xWr, xLa, oLs, oLa, up2, q1, shI, Cy.R, Cy.I, Cy.B, Cy.Wr, Cy.sh] <;> rfl)
theorem pwX_waived (hx : p.tables.exec = Jvm.exec) (hb : co.code = cc) (hC : Cs E s) (hown : s.vm.findClass own = some m.cls) (hX : PX E (R, I, B, Wr, S) ly L ad H) (hS : va_S A H0 H locs) (hA : ∀ q, q ∈ L → A q) (hf : FP own ref index 3 C T N 9 .boolean) (i : Nat) (hi : i < R 11 2) {v : Bool} (hw : WF (R, I, up2 B 2 i v, Wr, S)) (hdg : decode cc pc = .ok (.putfield index, 3))
    (kk : ∀ (H1 : Heap) (locs1 : List Loc), PX E (R, I, up2 B 2 i v, Wr, S) ly L ad H1 → va_S A H0 H1 locs1 → W p l e Rm s m args below meth co H1 locs1 cells slots Q (F0 m (pc + 3) ls rest)) : W p l e Rm s m args below meth co H locs cells slots Q (F0 m pc ls (.int (bI v) :: .ref (ad 7 i) :: rest)) := by
  refine pi_put hx hb hC hown hX.1 hS hA hf 7 i (cX_7 hi) (bI_nar v) (bI_fit v) (Nat.le_of_ble_eq_true rfl) hdg (fun H1 locs1 hP1 hS1 => kk H1 locs1 ?_ hS1)
  refine ⟨hP1.ext fun k z => ?_, hX.2.1, hX.2.2.1, hw⟩
  exact by
    unfold ctu
    by_cases q : k = 7 ∧ z = i
    · rw [if_pos q, q.1, q.2, show cX E (R, I, up2 B 2 i v, Wr, S) ly ad 7 i = _ from cX_7 hi]
      simp [xRo, xWa, xSh, xHa, xWr, xLa, oLs, oLa, up2, va_up, upd, shI, Cy.R, Cy.I, Cy.B, Cy.Wr, Cy.sh] <;> rfl
    · rw [if_neg q]
      rcases k with _ | _ | _ | _ | _ | _ | _ | _ | k <;> first | rfl | (have q1 : ¬ z = i := fun w => q ⟨rfl, w⟩
                                                                         simp [cX, xRo, xWa, xSh, xHa, xWr, xLa, oLs, oLa, up2, q1, shI, Cy.R, Cy.I, Cy.B, Cy.Wr, Cy.sh] <;> rfl)
theorem pwX_memorial (hx : p.tables.exec = Jvm.exec) (hb : co.code = cc) (hC : Cs E s) (hown : s.vm.findClass own = some m.cls) (hX : PX E (R, I, B, Wr, S) ly L ad H) (hS : va_S A H0 H locs) (hA : ∀ q, q ∈ L → A q) (hf : FP own ref index 3 C T N 10 .boolean) (i : Nat) (hi : i < R 11 2) {v : Bool} (hw : WF (R, I, up2 B 3 i v, Wr, S)) (hdg : decode cc pc = .ok (.putfield index, 3))
    (kk : ∀ (H1 : Heap) (locs1 : List Loc), PX E (R, I, up2 B 3 i v, Wr, S) ly L ad H1 → va_S A H0 H1 locs1 → W p l e Rm s m args below meth co H1 locs1 cells slots Q (F0 m (pc + 3) ls rest)) : W p l e Rm s m args below meth co H locs cells slots Q (F0 m pc ls (.int (bI v) :: .ref (ad 7 i) :: rest)) := by
  refine pi_put hx hb hC hown hX.1 hS hA hf 7 i (cX_7 hi) (bI_nar v) (bI_fit v) (Nat.le_of_ble_eq_true rfl) hdg (fun H1 locs1 hP1 hS1 => kk H1 locs1 ?_ hS1)
  refine ⟨hP1.ext fun k z => ?_, hX.2.1, hX.2.2.1, hw⟩
  exact by
    unfold ctu
    by_cases q : k = 7 ∧ z = i
    · rw [if_pos q, q.1, q.2, show cX E (R, I, up2 B 3 i v, Wr, S) ly ad 7 i = _ from cX_7 hi]
      simp [xRo, xWa, xSh, xHa, xWr, xLa, oLs, oLa, up2, va_up, upd, shI, Cy.R, Cy.I, Cy.B, Cy.Wr, Cy.sh] <;> rfl
    · rw [if_neg q]
      rcases k with _ | _ | _ | _ | _ | _ | _ | _ | k <;> first | rfl | (have q1 : ¬ z = i := fun w => q ⟨rfl, w⟩
                                                                         simp [cX, xRo, xWa, xSh, xHa, xWr, xLa, oLs, oLa, up2, q1, shI, Cy.R, Cy.I, Cy.B, Cy.Wr, Cy.sh] <;> rfl)
theorem pwX_wrongs (hx : p.tables.exec = Jvm.exec) (hb : co.code = cc) (hC : Cs E s) (hX : PX E (R, I, B, Wr, S) ly L ad H) (hS : va_S A H0 H locs) (hA : ∀ q, q ∈ L → A q) (i : Nat) (hi : i < R 11 1) {j : Nat} (hj : j < 8) {x : Int32} (hw : WF (R, I, B, up2 Wr i j x, S)) (hdg : decode cc pc = .ok (.iastore, 1))
    (kk : ∀ (H1 : Heap) (locs1 : List Loc), PX E (R, I, B, up2 Wr i j x, S) ly L ad H1 → va_S A H0 H1 locs1 → W p l e Rm s m args below meth co H1 locs1 cells slots Q (F0 m (pc + 1) ls rest)) : W p l e Rm s m args below meth co H locs cells slots Q (F0 m pc ls (.int x :: .int (nI j) :: .ref (ad 6 i) :: rest)) := by
  refine pi_iast hx hb hC hX.1 hS hA 6 i (cX_6 hi) hj (by decide) hdg (fun H1 locs1 hP1 hS1 => kk H1 locs1 ?_ hS1)
  refine ⟨hP1.ext fun k z => ?_, hX.2.1, hX.2.2.1, hw⟩
  unfold ctu
  by_cases q : k = 6 ∧ z = i
  · rw [if_pos q, q.1, q.2, show cX E (R, I, B, up2 Wr i j x, S) ly ad 6 i = _ from cX_6 hi]
    have : (fun y => up2 Wr i j x i y) = upd (Wr i) j x := funext fun y => by simp [up2, upd]
    show some (Sum.inl (E.2 1, 8, Sum.inl (fun y => up2 Wr i j x i y))) = _
    rw [this]
    rfl
  · rw [if_neg q]
    rcases k with _ | _ | _ | _ | _ | _ | _ | _ | k <;> first | rfl | (have q1 : ¬ z = i := fun w => q ⟨rfl, w⟩
                                                                       have q2 : (fun y => up2 Wr i j x z y) = Wr z := funext fun y => up2_ne Wr x (fun w => q1 w.1)
                                                                       show (if z < R 11 1 then some (Sum.inl (E.2 1, 8, Sum.inl (fun y => up2 Wr i j x z y))) else none) = _
                                                                       rw [q2]; rfl)
theorem pwX_shown (hx : p.tables.exec = Jvm.exec) (hb : co.code = cc) (hC : Cs E s) (hX : PX E (R, I, B, Wr, S) ly L ad H) (hS : va_S A H0 H locs) (hA : ∀ q, q ∈ L → A q) (i : Nat) (hi : i < R 11 0) {j : Nat} (hj : j < R 11 2) {y : Nat} (hy : y < R 1 i) (hy2 : R 1 i < 2 ^ 31) (hw : WF (R, I, B, Wr, up2 S i y (some j))) (hdg : decode cc pc = .ok (.aastore, 1))
    (kk : ∀ (H1 : Heap) (locs1 : List Loc), PX E (R, I, B, Wr, up2 S i y (some j)) ly L ad H1 → va_S A H0 H1 locs1 → W p l e Rm s m args below meth co H1 locs1 cells slots Q (F0 m (pc + 1) ls rest)) : W p l e Rm s m args below meth co H locs cells slots Q (F0 m pc ls (.ref (ad 7 j) :: .int (nI y) :: .ref (ad 4 i) :: rest)) := by
  refine pi_rast hx hb hC hX.1 hS hA 4 i 1 rfl (r := (RX1, TX1, 11)) (cX_4 hi) 7 j (cX_7 hj) rfl hy hy2 hdg (fun H1 locs1 hP1 hS1 => kk H1 locs1 ?_ hS1)
  refine ⟨hP1.ext fun k z => ?_, hX.2.1, hX.2.2.1, hw⟩
  unfold ctu
  by_cases q : k = 4 ∧ z = i
  · rw [if_pos q, q.1, q.2, show cX E (R, I, B, Wr, up2 S i y (some j)) ly ad 4 i = _ from cX_4 hi]
    have : (fun k => (up2 S i y (some j) i k).map (ad 7)) = va_up (fun k => (S i k).map (ad 7)) y (some (ad 7 j)) := funext fun x => by
      by_cases w : x = y
      · subst w; simp [up2, va_up, oI]
      · simp [up2, va_up, w]
    show some (Sum.inl (E.2 2, R 1 i, Sum.inr (Sum.inr (Sum.inr (Sum.inr ((fun k => (up2 S i y (some j) i k).map (ad 7)))))))) = _
    rw [this]
    rfl
  · rw [if_neg q]
    rcases k with _ | _ | _ | _ | _ | _ | _ | _ | k <;> first | rfl | (have q1 : ¬ z = i := fun w => q ⟨rfl, w⟩
                                                                       have q2 : (fun k => (up2 S i y (some j) z k).map (ad 7)) = (fun k => (S z k).map (ad 7)) := funext fun x => by rw [up2_ne S _ (fun w => q1 w.1)]
                                                                       show (if z < R 11 0 then some (Sum.inl (E.2 2, R 1 z, Sum.inr (Sum.inr (Sum.inr (Sum.inr ((fun k => (up2 S i y (some j) z k).map (ad 7)))))))) else none) = _
                                                                       rw [q2]; rfl)
theorem pwX_shownN (hx : p.tables.exec = Jvm.exec) (hb : co.code = cc) (hC : Cs E s) (hX : PX E (R, I, B, Wr, S) ly L ad H) (hS : va_S A H0 H locs) (hA : ∀ q, q ∈ L → A q) (i : Nat) (hi : i < R 11 0) {y : Nat} (hy : y < R 1 i) (hy2 : R 1 i < 2 ^ 31) (hw : WF (R, I, B, Wr, up2 S i y (none))) (hdg : decode cc pc = .ok (.aastore, 1))
    (kk : ∀ (H1 : Heap) (locs1 : List Loc), PX E (R, I, B, Wr, up2 S i y (none)) ly L ad H1 → va_S A H0 H1 locs1 → W p l e Rm s m args below meth co H1 locs1 cells slots Q (F0 m (pc + 1) ls rest)) : W p l e Rm s m args below meth co H locs cells slots Q (F0 m pc ls (.null :: .int (nI y) :: .ref (ad 4 i) :: rest)) := by
  refine pi_rastN hx hb hC hX.1 hS hA 4 i 1 rfl (cX_4 hi) hy hy2 hdg (fun H1 locs1 hP1 hS1 => kk H1 locs1 ?_ hS1)
  refine ⟨hP1.ext fun k z => ?_, hX.2.1, hX.2.2.1, hw⟩
  unfold ctu
  by_cases q : k = 4 ∧ z = i
  · rw [if_pos q, q.1, q.2, show cX E (R, I, B, Wr, up2 S i y (none)) ly ad 4 i = _ from cX_4 hi]
    have : (fun k => (up2 S i y (none) i k).map (ad 7)) = va_up (fun k => (S i k).map (ad 7)) y none := funext fun x => by
      by_cases w : x = y
      · subst w; simp [up2, va_up, oI]
      · simp [up2, va_up, w]
    show some (Sum.inl (E.2 2, R 1 i, Sum.inr (Sum.inr (Sum.inr (Sum.inr ((fun k => (up2 S i y (none) i k).map (ad 7)))))))) = _
    rw [this]
    rfl
  · rw [if_neg q]
    rcases k with _ | _ | _ | _ | _ | _ | _ | _ | k <;> first | rfl | (have q1 : ¬ z = i := fun w => q ⟨rfl, w⟩
                                                                       have q2 : (fun k => (up2 S i y (none) z k).map (ad 7)) = (fun k => (S z k).map (ad 7)) := funext fun x => by rw [up2_ne S _ (fun w => q1 w.1)]
                                                                       show (if z < R 11 0 then some (Sum.inl (E.2 2, R 1 z, Sum.inr (Sum.inr (Sum.inr (Sum.inr ((fun k => (up2 S i y (none) z k).map (ad 7)))))))) else none) = _
                                                                       rw [q2]; rfl)
end PWR
