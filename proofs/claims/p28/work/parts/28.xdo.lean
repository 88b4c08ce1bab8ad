/-! what the calls do -/
/-- cells of one wall bared, up to k -/
def mk1 (S : Nat → Nat → Option Nat) (i k : Nat) (P : Nat → Bool) : Nat → Nat → Option Nat := fun a q => if a = i ∧ q < k ∧ P q = true then none else S a q
theorem mk1_0 {S : Nat → Nat → Option Nat} {i : Nat} {P : Nat → Bool} : mk1 S i 0 P = S := funext fun a => funext fun q => if_neg fun z => by omega
theorem mk1_at {S : Nat → Nat → Option Nat} {i k : Nat} {P : Nat → Bool} : mk1 S i k P i k = S i k := if_neg fun z => by omega
theorem mk1_t {S : Nat → Nat → Option Nat} {i k : Nat} {P : Nat → Bool} (h : P k = true) : up2 (mk1 S i k P) i k none = mk1 S i (k + 1) P := by
  funext a q
  unfold up2 mk1
  by_cases z : a = i ∧ q = k
  · rw [if_pos z, if_pos ⟨z.1, by omega, by rw [z.2]; exact h⟩]
  · rw [if_neg z]
    by_cases y : a = i ∧ q < k ∧ P q = true
    · rw [if_pos y, if_pos ⟨y.1, by omega, y.2.2⟩]
    · rw [if_neg y, if_neg fun x => y ⟨x.1, by have := x.2.1; have : ¬ q = k := fun w => z ⟨x.1, w⟩; omega, x.2.2⟩]
theorem mk1_f {S : Nat → Nat → Option Nat} {i k : Nat} {P : Nat → Bool} (h : P k = false) : mk1 S i k P = mk1 S i (k + 1) P := by
  funext a q
  unfold mk1
  by_cases y : a = i ∧ q < k ∧ P q = true
  · rw [if_pos y, if_pos ⟨y.1, by omega, y.2.2⟩]
  · rw [if_neg y, if_neg fun x => y ⟨x.1, by have := x.2.1; have : ¬ q = k := (fun w => absurd x.2.2 (by rw [w, h]; decide)); omega, x.2.2⟩]
theorem tbS_c {c : Cy} {I : Nat → Nat → Int32} {S : Nat → Nat → Option Nat} {i k : Nat} (h : S i k = c.sh i k) : tbS (c.R, c.I, c.B, c.Wr, S) i k = tbS c i k := by
  show (match S i k with
    | none => false
    | some j => !c.B 1 j || !permS (c.R, c.I, c.B, c.Wr, S) (c.R 5 j) i) = _
  rw [h]; rfl
theorem shw_t {c : Cy} {i k x j : Nat} (h : c.sh i k = some x) (e : x = j) : shwB c i j k = true := by unfold shwB; rw [h, e]; simp
theorem shw_f {c : Cy} {i k x j : Nat} (h : c.sh i k = some x) (e : ¬ x = j) : shwB c i j k = false := by unfold shwB; rw [h]; simp [e]
theorem shw_n {c : Cy} {i k j : Nat} (h : c.sh i k = none) : shwB c i j k = false := by unfold shwB; rw [h]; simp
theorem bI_tf : True := trivial
/-- permit, watch -/
def pmI (c : Cy) (i : Nat) (a b : Int32) : Nat → Nat → Int32 := up2 (up2 c.I 4 i a) 5 i b
def waI (c : Cy) (i a b : Nat) : Nat → Nat → Int32 := up2 (up2 c.I 6 i (nI a)) 7 i (nI b)
/-- clear: what is owed then, and the sum -/
def clw (c : Cy) (j : Nat) : Int32 := nI 5 * wtf (c.R 9 j)
def clI (c : Cy) (i : Nat) : Nat → Nat → Nat → Int32
  | 0 => c.I
  | k + 1 => match c.sh i k with
    | none => clI c i k
    | some j => if hrS c j = true then up2 (clI c i k) 14 (c.R 5 j) (clI c i k 14 (c.R 5 j) + clw c j) else clI c i k
def clT (c : Cy) (i : Nat) : Nat → Int32
  | 0 => nI 0
  | k + 1 => match c.sh i k with
    | none => clT c i k
    | some j => if hrS c j = true then clT c i k + clw c j else clT c i k
theorem clI_n {c : Cy} {i k : Nat} (h : c.sh i k = none) : clI c i k = clI c i (k + 1) := by simp only [clI, h]
theorem clI_f {c : Cy} {i k j : Nat} (h : c.sh i k = some j) (e : hrS c j = false) : clI c i k = clI c i (k + 1) := by simp [clI, h, e]
theorem clI_t {c : Cy} {i k j : Nat} (h : c.sh i k = some j) (e : hrS c j = true) : up2 (clI c i k) 14 (c.R 5 j) (clI c i k 14 (c.R 5 j) + clw c j) = clI c i (k + 1) := by simp [clI, h, e]
theorem clT_n {c : Cy} {i k : Nat} (h : c.sh i k = none) : clT c i k = clT c i (k + 1) := by simp only [clT, h]
theorem clT_f {c : Cy} {i k j : Nat} (h : c.sh i k = some j) (e : hrS c j = false) : clT c i k = clT c i (k + 1) := by simp [clT, h, e]
theorem clT_t {c : Cy} {i k j : Nat} (h : c.sh i k = some j) (e : hrS c j = true) : clT c i k + clw c j = clT c i (k + 1) := by simp [clT, h, e]
/-- paint: the wrongs -/
def dwW (c : Cy) (h i f kd : Nat) : Nat → Nat → Nat → Int32
  | 0 => c.Wr
  | n + 1 => match waS c h i f (f + n) kd with
    | none => dwW c h i f kd n
    | some x => up2 (dwW c h i f kd n) h x (dwW c h i f kd n h x + nI 1)
theorem dwW_n {c : Cy} {h i f kd k : Nat} (hk : f ≤ k) (e : waS c h i f k kd = none) : dwW c h i f kd (k - f) = dwW c h i f kd (k + 1 - f) := by
  rw [show k + 1 - f = (k - f) + 1 by omega]
  simp only [dwW]
  rw [show f + (k - f) = k by omega, e]
theorem dwW_s {c : Cy} {h i f kd k x : Nat} (hk : f ≤ k) (e : waS c h i f k kd = some x) : up2 (dwW c h i f kd (k - f)) h x (dwW c h i f kd (k - f) h x + nI 1) = dwW c h i f kd (k + 1 - f) := by
  rw [show k + 1 - f = (k - f) + 1 by omega]
  simp only [dwW]
  rw [show f + (k - f) = k by omega, e]
/-- a night goes by -/
def rzR (c : Cy) (k : Nat) : Nat → Nat → Nat := fun a h => if a = 3 ∧ h < k then 0 else if a = 0 ∧ h = 0 then c.R 0 0 + 1 else c.R a h
def niI (c : Cy) : Nat → Nat → Int32 := up2 c.I 0 0 (c.I 0 0 + nI 5)
def bnS (c : Cy) (k : Nat) : Nat → Nat → Option Nat := fun a q => if a < k ∧ clnS c a (c.R 0 0 + 1) = true ∧ q < c.R 1 a then none else c.sh a q
def smN (f : Nat → Nat) : Nat → Nat
  | 0 => 0
  | n + 1 => smN f n + f n
def niF (c : Cy) (i : Nat) : Nat := if clnS c i (c.R 0 0 + 1) = true then cntN (pntB c i) (c.R 1 i) else 0
def niN (c : Cy) : Nat := smN (niF c) (c.R 10 0)
def ni1 (c : Cy) : Cy := (rzR c (c.R 10 1), niI c, c.B, c.Wr, bnS c (c.R 10 0))
def niC (c : Cy) : Nat → Cy
  | 0 => c
  | n + 1 => ni1 (niC c n)
theorem rzR_0 {c : Cy} : up2 c.R 0 0 (c.R 0 0 + 1) = rzR c 0 := by
  funext a h
  unfold up2 rzR
  rw [if_neg (by omega : ¬ (a = 3 ∧ h < 0))]
theorem rzR_s {c : Cy} {k : Nat} : up2 (rzR c k) 3 k 0 = rzR c (k + 1) := by
  funext a h
  unfold up2 rzR
  by_cases z : a = 3 ∧ h = k
  · rw [if_pos z, if_pos ⟨z.1, by omega⟩]
  · rw [if_neg z]
    by_cases y : a = 3 ∧ h < k
    · rw [if_pos y, if_pos (show a = 3 ∧ h < k + 1 from ⟨y.1, by omega⟩)]
    · rw [if_neg y, if_neg (show ¬ (a = 3 ∧ h < k + 1) from fun x => y ⟨x.1, by have : ¬ h = k := fun w => z ⟨x.1, w⟩; omega⟩)]
theorem bnS_0 {c : Cy} : c.sh = bnS c 0 := funext fun a => funext fun q => (if_neg fun z => by omega).symm
theorem bnS_at {c : Cy} {k q : Nat} : bnS c k k q = c.sh k q := if_neg fun z => by omega
theorem bnS_t {c : Cy} {k : Nat} (h : clnS c k (c.R 0 0 + 1) = true) : mk1 (bnS c k) k (c.R 1 k) (fun _ => true) = bnS c (k + 1) := by
  funext a q
  unfold mk1 bnS
  by_cases z : a = k
  · subst z
    by_cases y : q < c.R 1 a
    · rw [if_pos ⟨rfl, y, rfl⟩, if_pos ⟨by omega, h, y⟩]
    · rw [if_neg fun x => y x.2.1, if_neg fun x => y x.2.2, if_neg fun x => y x.2.2]
  · rw [if_neg fun x => z x.1]
    by_cases y : a < k ∧ clnS c a (c.R 0 0 + 1) = true ∧ q < c.R 1 a
    · rw [if_pos y, if_pos ⟨by omega, y.2⟩]
    · rw [if_neg y, if_neg fun x => y ⟨by omega, x.2⟩]
theorem bnS_f {c : Cy} {k : Nat} (h : clnS c k (c.R 0 0 + 1) = false) : bnS c k = bnS c (k + 1) := by
  funext a q
  unfold bnS
  by_cases z : a = k
  · subst z
    rw [if_neg fun x => by omega, if_neg fun x => by rw [h] at x; cases x.2.1]
  · by_cases y : a < k ∧ clnS c a (c.R 0 0 + 1) = true ∧ q < c.R 1 a
    · rw [if_pos y, if_pos ⟨by omega, y.2⟩]
    · rw [if_neg y, if_neg fun x => y ⟨by omega, x.2⟩]
theorem pnt_c {c : Cy} {R : Nat → Nat → Nat} {I : Nat → Nat → Int32} {S : Nat → Nat → Option Nat} {i n : Nat} (h : ∀ q, S i q = c.sh i q) : cntN (pntB (R, I, c.B, c.Wr, S) i) n = cntN (pntB c i) n := cntN_congr fun k _ => by
  show (S i k).isSome = (c.sh i k).isSome
  rw [h]
theorem niF_t {c : Cy} {k : Nat} (h : clnS c k (c.R 0 0 + 1) = true) : smN (niF c) k + cntN (pntB c k) (c.R 1 k) = smN (niF c) (k + 1) := by
  show _ = smN (niF c) k + niF c k
  unfold niF
  rw [if_pos h]
theorem niF_f {c : Cy} {k : Nat} (h : clnS c k (c.R 0 0 + 1) = false) : smN (niF c) k = smN (niF c) (k + 1) := by
  show _ = smN (niF c) k + niF c k
  unfold niF
  rw [if_neg (by rw [h]; decide)]
  rfl
theorem niC_0 (c : Cy) : ∀ n, (niC c n).R 0 0 = c.R 0 0 + n
  | 0 => rfl
  | n + 1 => by
    show rzR (niC c n) ((niC c n).R 10 1) 0 0 = _
    have := niC_0 c n
    show (if 0 = 3 ∧ 0 < (niC c n).R 10 1 then 0 else if 0 = 0 ∧ 0 = 0 then (niC c n).R 0 0 + 1 else (niC c n).R 0 0) = _
    rw [if_neg (by omega), if_pos ⟨rfl, rfl⟩]
    omega
section WFV
variable {R : Nat → Nat → Nat} {I : Nat → Nat → Int32} {B : Nat → Nat → Bool} {Wr : Nat → Nat → Int32} {S : Nat → Nat → Option Nat}
theorem WF.uI6 (h : WF (R, I, B, Wr, S)) {i : Nat} {v : Int32} (hv : ¬ v < 0) : WF (R, up2 I 6 i v, B, Wr, S) := by
  obtain ⟨g1, g2, g3, g4, g5, g6, g7, g8, g9, g10⟩ := h
  refine ⟨g1, g2, g3, g4, g5, g6, g7, g8, fun x hx => ?_, g10⟩
  show I 7 x = -1 ∨ ¬ up2 I 6 i v 6 x < 0
  by_cases z : x = i
  · right; rw [z, up2_same]; exact hv
  · rw [up2_ne I v (fun w => z w.2)]; exact g9 x hx
theorem WF.uI7 (h : WF (R, I, B, Wr, S)) {i : Nat} {v : Int32} (hv : ¬ I 6 i < 0) : WF (R, up2 I 7 i v, B, Wr, S) := by
  obtain ⟨g1, g2, g3, g4, g5, g6, g7, g8, g9, g10⟩ := h
  refine ⟨g1, g2, g3, g4, g5, g6, g7, g8, fun x hx => ?_, g10⟩
  show up2 I 7 i v 7 x = -1 ∨ ¬ I 6 x < 0
  by_cases z : x = i
  · right; rw [z]; exact hv
  · rw [up2_ne I v (fun w => z w.2)]; exact g9 x hx
end WFV
set_option maxHeartbeats 4000000 in
set_option maxRecDepth 100000 in
theorem mX2_bareAll (l : Launch) {E : En} {c : Cy} {ly : Ly} {L : List Nat} {ad : Nat → Nat → Nat} {H0 : Heap} (hX : PX E c ly L ad H0) (i : Nat) (hi : i < c.R 11 0) : MuV l yX2_bareAll cX2_bareAll 2 (rmk 0 0 0 0) [.ref (ad 3 i)] E H0 (fun H1 => PX E (c.R, c.I, c.B, c.Wr, mk1 c.sh i (c.R 1 i) (fun _ => true)) ly L ad H1) (cA L H0) 0 0 := by
  obtain ⟨hP, hly, hLb, wf⟩ := id hX
  have wfx := wf
  refine ro_of (by decide) (Nat.le_of_ble_eq_true rfl) ?_
  intro p e s m below meth co ls hx hb hr hml hown hlocks hnm hC hU hl
  have hS : va_S (cA L H0) s.heap H0 [] := by rw [hU]; exact va_S.rf
  have hA : ∀ q, q ∈ L → cA L H0 q := fun q h => Or.inl h
  have hN : ∀ q, s.heap.size ≤ q → cA L H0 q := fun q h => Or.inr (by rw [← hU]; exact h)
  have hAb : ∀ q, cA L H0 q → bA E q := fun q h => h.elim (hLb q) (fun z => Nat.le_trans hC.2.2.2.1 (by rw [hU]; exact z))
  have hl : lv_has ls 2 [(0, .ref (ad 3 i))] := hl
  have gw := wf.wd hi
  refine lv_iconstN hx hb 0 dX2_bareAll_0 (by decide) ?_
  refine lv_istore_n (lv' := [(1, .int (nI 0)), (0, .ref (ad 3 i))]) hx hb dX2_bareAll_1 rfl hl (by decide) rfl (fun ls hl => ?_)
  have lp2 : ∀ fu : Nat, ∀ (k : Nat), k ≤ c.R 1 i → c.R 1 i - k < fu → ∀ (H : Heap) (locs : List Loc), PX E (c.R, c.I, c.B, c.Wr, mk1 c.sh i k (fun _ => true)) ly L ad H → va_S (cA L H0) s.heap H locs → ∀ ls : Array Slot, lv_has ls 2 [(0, .ref (ad 3 i)), (1, .int (nI k))] → W p l e (rmk 0 0 0 0) s m ([.ref (ad 3 i)] : List Value).toArray below meth co H locs 0 0 (MQ below (QvM (fun H1 => PX E (c.R, c.I, c.B, c.Wr, mk1 c.sh i (c.R 1 i) (fun _ => true)) ly L ad H1) (cA L H0)) ([.ref (ad 3 i)] : List Value).toArray s 0 0 (cA L H0)) (F0 m 2 ls []) := by
    intro fu
    induction fu with
    | zero => intro k hk hfu; exact absurd hfu (Nat.not_lt_zero _)
    | succ fu ih2 =>
      intro k hk hfu H locs hX hS ls hl
      obtain ⟨hP, hly, hLb, wfx⟩ := id hX
      refine lv_iload_n hx hb dX2_bareAll_2 rfl (lv_at hl 1 rfl) ?_
      refine lv_aload_n hx hb dX2_bareAll_3 rfl (lv_at hl 0 rfl) ?_
      refine pi_get hx hb hC hown hP fL_X2_15 3 i (cX_3 hi) (v := .int (nI (c.R 1 i))) rfl dX2_bareAll_4 ?_
      have g_1 : 4 ≤ c.R 1 i ∧ c.R 1 i ≤ 16 := wfx.wd hi
      refine lv_icmpN_ge (tgt := 23) hx hb dX2_bareAll_7 (by decide) (by omega) (by omega) (fun c_7 => ?_) (fun c_7 => ?_)
      · skip
        exact mu_vret hx hb hr hlocks hS (by have z : k = c.R 1 i := (by omega); show PX _ _ _ _ _ _; rw [← z]; exact hX) dX2_bareAll_23
      · skip
        refine lv_aload_n hx hb dX2_bareAll_10 rfl (lv_at hl 0 rfl) ?_
        refine pi_get hx hb hC hown hP fL_X2_29 3 i (cX_3 hi) (v := .ref (ad 4 i)) rfl dX2_bareAll_11 ?_
        have g_2 : 4 ≤ c.R 1 i ∧ c.R 1 i ≤ 16 := wfx.wd hi
        refine lv_iload_n hx hb dX2_bareAll_14 rfl (lv_at hl 1 rfl) ?_
        refine lv_null hx hb dX2_bareAll_15 ?_
        refine pwX_shownN (R := c.R) (I := c.I) (B := c.B) (Wr := c.Wr) (S := mk1 c.sh i k (fun _ => true)) hx hb hC hX hS hA i hi (y := k) (by first | assumption | omega) (by omega) (WF.uS wfx (fun _ z => by cases z)) dX2_bareAll_16 (fun H locs hX hS => ?_)
        obtain ⟨hP, hly, hLb, wfx⟩ := id hX
        refine lv_iincN (v := 1) (lv' := [(1, .int (nI (k + 1))), (0, .ref (ad 3 i))]) hx hb dX2_bareAll_17 hl (k := 1) rfl (by decide) (by decide) rfl (fun ls hl => ?_)
        refine lv_goto (tgt := 2) hx hb dX2_bareAll_20 (by decide) ?_
        have esh : up2 (mk1 c.sh i k (fun _ => true)) i k none = mk1 c.sh i (k + 1) (fun _ => true) := mk1_t rfl
        have hX : PX E (c.R, c.I, c.B, c.Wr, mk1 c.sh i (k + 1) (fun _ => true)) ly L ad H := by rw [← esh]; exact hX
        exact ih2 (k + 1) (by first | rfl | assumption | omega | (simp [c_7]; done) | (simp_all [c_7]; done)) (by omega) _ _ hX hS _ (lv_sub hl [1, 0] rfl)
  have esh : c.sh = mk1 c.sh i 0 (fun _ => true) := mk1_0.symm
  have hX : PX E (c.R, c.I, c.B, c.Wr, mk1 c.sh i 0 (fun _ => true)) ly L ad H0 := by rw [← esh]; exact hX
  exact lp2 (c.R 1 i - 0 + 1) 0 (by first | rfl | assumption | omega | (simp []; done) | (simp_all []; done)) (Nat.lt_succ_self _) _ _ hX hS _ (lv_sub hl [1, 0] rfl)
set_option maxHeartbeats 4000000 in
set_option maxRecDepth 100000 in
theorem mX2_cutOut (l : Launch) {E : En} {c : Cy} {ly : Ly} {L : List Nat} {ad : Nat → Nat → Nat} {H0 : Heap} (hX : PX E c ly L ad H0) (i j : Nat) (hi : i < c.R 11 0) (hj : j < c.R 11 2) : MuV l yX2_cutOut cX2_cutOut 3 (rmk 0 0 0 0) [.ref (ad 3 i), .ref (ad 7 j)] E H0 (fun H1 => PX E (c.R, c.I, c.B, c.Wr, mk1 c.sh i (c.R 1 i) (shwB c i j)) ly L ad H1) (cA L H0) 0 0 := by
  obtain ⟨hP, hly, hLb, wf⟩ := id hX
  have wfx := wf
  refine ro_of (by decide) (Nat.le_of_ble_eq_true rfl) ?_
  intro p e s m below meth co ls hx hb hr hml hown hlocks hnm hC hU hl
  have hS : va_S (cA L H0) s.heap H0 [] := by rw [hU]; exact va_S.rf
  have hA : ∀ q, q ∈ L → cA L H0 q := fun q h => Or.inl h
  have hN : ∀ q, s.heap.size ≤ q → cA L H0 q := fun q h => Or.inr (by rw [← hU]; exact h)
  have hAb : ∀ q, cA L H0 q → bA E q := fun q h => h.elim (hLb q) (fun z => Nat.le_trans hC.2.2.2.1 (by rw [hU]; exact z))
  have hl : lv_has ls 3 [(0, .ref (ad 3 i)), (1, .ref (ad 7 j))] := hl
  have gw := wf.wd hi
  refine lv_iconstN hx hb 0 dX2_cutOut_0 (by decide) ?_
  refine lv_istore_n (lv' := [(2, .int (nI 0)), (0, .ref (ad 3 i)), (1, .ref (ad 7 j))]) hx hb dX2_cutOut_1 rfl hl (by decide) rfl (fun ls hl => ?_)
  have lp2 : ∀ fu : Nat, ∀ (k : Nat), k ≤ c.R 1 i → c.R 1 i - k < fu → ∀ (H : Heap) (locs : List Loc), PX E (c.R, c.I, c.B, c.Wr, mk1 c.sh i k (shwB c i j)) ly L ad H → va_S (cA L H0) s.heap H locs → ∀ ls : Array Slot, lv_has ls 3 [(0, .ref (ad 3 i)), (1, .ref (ad 7 j)), (2, .int (nI k))] → W p l e (rmk 0 0 0 0) s m ([.ref (ad 3 i), .ref (ad 7 j)] : List Value).toArray below meth co H locs 0 0 (MQ below (QvM (fun H1 => PX E (c.R, c.I, c.B, c.Wr, mk1 c.sh i (c.R 1 i) (shwB c i j)) ly L ad H1) (cA L H0)) ([.ref (ad 3 i), .ref (ad 7 j)] : List Value).toArray s 0 0 (cA L H0)) (F0 m 2 ls []) := by
    intro fu
    induction fu with
    | zero => intro k hk hfu; exact absurd hfu (Nat.not_lt_zero _)
    | succ fu ih2 =>
      intro k hk hfu H locs hX hS ls hl
      obtain ⟨hP, hly, hLb, wfx⟩ := id hX
      refine lv_iload_n hx hb dX2_cutOut_2 rfl (lv_at hl 2 rfl) ?_
      refine lv_aload_n hx hb dX2_cutOut_3 rfl (lv_at hl 0 rfl) ?_
      refine pi_get hx hb hC hown hP fL_X2_15 3 i (cX_3 hi) (v := .int (nI (c.R 1 i))) rfl dX2_cutOut_4 ?_
      have g_1 : 4 ≤ c.R 1 i ∧ c.R 1 i ≤ 16 := wfx.wd hi
      refine lv_icmpN_ge (tgt := 33) hx hb dX2_cutOut_7 (by decide) (by omega) (by omega) (fun c_7 => ?_) (fun c_7 => ?_)
      · skip
        exact mu_vret hx hb hr hlocks hS (by have z : k = c.R 1 i := (by omega); show PX _ _ _ _ _ _; rw [← z]; exact hX) dX2_cutOut_33
      · skip
        refine lv_aload_n hx hb dX2_cutOut_10 rfl (lv_at hl 0 rfl) ?_
        refine pi_get hx hb hC hown hP fL_X2_29 3 i (cX_3 hi) (v := .ref (ad 4 i)) rfl dX2_cutOut_11 ?_
        have g_2 : 4 ≤ c.R 1 i ∧ c.R 1 i ≤ 16 := wfx.wd hi
        refine lv_iload_n hx hb dX2_cutOut_14 rfl (lv_at hl 2 rfl) ?_
        refine pi_rald (n := c.R 1 i) hx hb hC hP 4 i 1 rfl (cX_4 hi) (j := k) (by first | assumption | omega) (by omega) dX2_cutOut_15 (fun ed_15 => ?_) (fun y15 ed_15 => ?_)
        · skip
          have d_15 : (mk1 c.sh i k (shwB c i j)) i k = none := sh_none ed_15
          refine lv_aload_n hx hb dX2_cutOut_16 rfl (lv_at hl 1 rfl) ?_
          refine lv_acmp_ne (rx := none) (ry := some ((ad 7 j))) (tgt := 27) hx hb dX2_cutOut_17 (by decide) (fun c_17 => ?_) (fun c_17 => ?_)
          · skip
            refine lv_iincN (v := 1) (lv' := [(2, .int (nI (k + 1))), (0, .ref (ad 3 i)), (1, .ref (ad 7 j))]) hx hb dX2_cutOut_27 hl (k := 2) rfl (by decide) (by decide) rfl (fun ls hl => ?_)
            refine lv_goto (tgt := 2) hx hb dX2_cutOut_30 (by decide) ?_
            have esh : mk1 c.sh i k (shwB c i j) = mk1 c.sh i (k + 1) (shwB c i j) := by first | exact mk1_t (shw_t (mk1_at.symm.trans d_15) c_17) | exact mk1_f (shw_f (mk1_at.symm.trans d_15) c_17) | exact mk1_f (shw_n (mk1_at.symm.trans d_15))
            have hX : PX E (c.R, c.I, c.B, c.Wr, mk1 c.sh i (k + 1) (shwB c i j)) ly L ad H := by rw [← esh]; exact hX
            exact ih2 (k + 1) (by first | rfl | assumption | omega | (simp [c_7, d_15]; done) | (simp_all [c_7, d_15]; done)) (by omega) _ _ hX hS _ (lv_sub hl [1, 2, 0] rfl)
          · skip
            exact absurd c_17 (by simp)
        · skip
          obtain ⟨j_15, d_15, rfl⟩ := sh_some ed_15
          have d_15 : (mk1 c.sh i k (shwB c i j)) i k = some j_15 := d_15
          have hj_15 : j_15 < c.R 11 2 := wfx.sj hi (show k < c.R 1 i by first | assumption | omega) d_15
          refine lv_aload_n hx hb dX2_cutOut_16 rfl (lv_at hl 1 rfl) ?_
          refine pi_acmp_ne (tgt := 27) hx hb hP 7 j_15 7 j (cX_7 hj_15) (cX_7 hj) dX2_cutOut_17 (by decide) (fun c_17 => ?_) (fun c_17 => ?_)
          · skip
            have c_17 : ¬ j_15 = j := fun z => c_17 ⟨rfl, z⟩
            refine lv_iincN (v := 1) (lv' := [(2, .int (nI (k + 1))), (0, .ref (ad 3 i)), (1, .ref (ad 7 j))]) hx hb dX2_cutOut_27 hl (k := 2) rfl (by decide) (by decide) rfl (fun ls hl => ?_)
            refine lv_goto (tgt := 2) hx hb dX2_cutOut_30 (by decide) ?_
            have esh : mk1 c.sh i k (shwB c i j) = mk1 c.sh i (k + 1) (shwB c i j) := by first | exact mk1_t (shw_t (mk1_at.symm.trans d_15) c_17) | exact mk1_f (shw_f (mk1_at.symm.trans d_15) c_17) | exact mk1_f (shw_n (mk1_at.symm.trans d_15))
            have hX : PX E (c.R, c.I, c.B, c.Wr, mk1 c.sh i (k + 1) (shwB c i j)) ly L ad H := by rw [← esh]; exact hX
            exact ih2 (k + 1) (by first | rfl | assumption | omega | (simp [c_7, d_15, c_17]; done) | (simp_all [c_7, d_15, c_17]; done)) (by omega) _ _ hX hS _ (lv_sub hl [1, 2, 0] rfl)
          · skip
            have c_17 := c_17.2
            refine lv_aload_n hx hb dX2_cutOut_20 rfl (lv_at hl 0 rfl) ?_
            refine pi_get hx hb hC hown hP fL_X2_29 3 i (cX_3 hi) (v := .ref (ad 4 i)) rfl dX2_cutOut_21 ?_
            refine lv_iload_n hx hb dX2_cutOut_24 rfl (lv_at hl 2 rfl) ?_
            refine lv_null hx hb dX2_cutOut_25 ?_
            refine pwX_shownN (R := c.R) (I := c.I) (B := c.B) (Wr := c.Wr) (S := mk1 c.sh i k (shwB c i j)) hx hb hC hX hS hA i hi (y := k) (by first | assumption | omega) (by omega) (WF.uS wfx (fun _ z => by cases z)) dX2_cutOut_26 (fun H locs hX hS => ?_)
            obtain ⟨hP, hly, hLb, wfx⟩ := id hX
            refine lv_iincN (v := 1) (lv' := [(2, .int (nI (k + 1))), (0, .ref (ad 3 i)), (1, .ref (ad 7 j))]) hx hb dX2_cutOut_27 hl (k := 2) rfl (by decide) (by decide) rfl (fun ls hl => ?_)
            refine lv_goto (tgt := 2) hx hb dX2_cutOut_30 (by decide) ?_
            have esh : up2 (mk1 c.sh i k (shwB c i j)) i k none = mk1 c.sh i (k + 1) (shwB c i j) := by first | exact mk1_t (shw_t (mk1_at.symm.trans d_15) c_17) | exact mk1_f (shw_f (mk1_at.symm.trans d_15) c_17) | exact mk1_f (shw_n (mk1_at.symm.trans d_15))
            have hX : PX E (c.R, c.I, c.B, c.Wr, mk1 c.sh i (k + 1) (shwB c i j)) ly L ad H := by rw [← esh]; exact hX
            exact ih2 (k + 1) (by first | rfl | assumption | omega | (simp [c_7, d_15, c_17]; done) | (simp_all [c_7, d_15, c_17]; done)) (by omega) _ _ hX hS _ (lv_sub hl [1, 2, 0] rfl)
  have esh : c.sh = mk1 c.sh i 0 (shwB c i j) := mk1_0.symm
  have hX : PX E (c.R, c.I, c.B, c.Wr, mk1 c.sh i 0 (shwB c i j)) ly L ad H0 := by rw [← esh]; exact hX
  exact lp2 (c.R 1 i - 0 + 1) 0 (by first | rfl | assumption | omega | (simp []; done) | (simp_all []; done)) (Nat.lt_succ_self _) _ _ hX hS _ (lv_sub hl [1, 2, 0] rfl)
set_option maxHeartbeats 4000000 in
set_option maxRecDepth 100000 in
theorem mX3_permit_g (l : Launch) {E : En} {c : Cy} {ly : Ly} {L : List Nat} {ad : Nat → Nat → Nat} {H0 : Heap} (hX : PX E c ly L ad H0) (i : Nat) (a b : Int32) (hi : i < c.R 10 0) (ha : isInS a (nI 0) (nI 3) = true) (hb2 : isInS b (nI (c.R 0 0)) (nI 400) = true) : MuI l yX3_permit cX3_permit 6 .int (rmk 4 0 0 85) [.ref (ad 0 0), .int (nI i), .int a, .int b] E H0 (pcS c i (nI (c.R 0 0))) (fun H1 => PX E (c.R, pmI c i a b, c.B, c.Wr, c.sh) ly L ad H1) (cA L H0) 0 0 := by
  obtain ⟨hP, hly, hLb, wf⟩ := id hX
  have wfx := wf
  refine ro_of (by decide) (Nat.le_of_ble_eq_true rfl) ?_
  intro p e s m below meth co ls hx hb hr hml hown hlocks hnm hC hU hl
  have hS : va_S (cA L H0) s.heap H0 [] := by rw [hU]; exact va_S.rf
  have hA : ∀ q, q ∈ L → cA L H0 q := fun q h => Or.inl h
  have hN : ∀ q, s.heap.size ≤ q → cA L H0 q := fun q h => Or.inr (by rw [← hU]; exact h)
  have hAb : ∀ q, cA L H0 q → bA E q := fun q h => h.elim (hLb q) (fun z => Nat.le_trans hC.2.2.2.1 (by rw [hU]; exact z))
  have hl : lv_has ls 6 [(0, .ref (ad 0 0)), (1, .int (nI i)), (2, .int a), (3, .int b)] := hl
  refine lv_aload_n hx hb dX3_permit_0 rfl (lv_at hl 0 rfl) ?_
  refine lv_iload_n hx hb dX3_permit_1 rfl (lv_at hl 1 rfl) ?_
  refine ro_VR (As := [.int (nI i)]) (h0 := ad 0 0) (rest := []) (v := some (ad 3 i)) hx hb hml hown hC hS hAb (mX3_wallAt_g l hX i (show i < c.R 10 0 by first | assumption | omega | decide | (simp only [decide_eq_false_iff_not, decide_eq_true_eq] at *; omega))) kV_X3_68 ⟨rfl, rfl⟩ ⟨Nat.le_of_ble_eq_true rfl, Nat.le_of_ble_eq_true rfl⟩ (hP.recv hC cX_0 rfl) rfl hl (Nat.le_of_ble_eq_true rfl) ⟨show _ ≤ (0 : Nat) by omega, show _ ≤ (0 : Nat) by omega⟩ dX3_permit_2 ?_
  have hg_1 : i < c.R 11 0 := by have := wf.sw; have := wf.sh'; have := wf.sl; omega
  refine lv_astore (lv' := [(4, .ref (ad 3 i)), (0, .ref (ad 0 0)), (1, .int (nI i)), (2, .int a), (3, .int b)]) hx hb dX3_permit_5 hl (by decide) rfl (fun ls hl => ?_)
  refine lv_iload_n hx hb dX3_permit_7 rfl (lv_at hl 3 rfl) ?_
  refine lv_iconstN hx hb 0 dX3_permit_8 (by decide) ?_
  refine lv_iconstN hx hb 3 dX3_permit_9 (by decide) ?_
  refine ro_S (As := [.int a, .int (nI 0), .int (nI 3)]) (rest := []) (v := bI (isInS a (nI 0) (nI 3))) hx hb hml hown hC hS hAb (mX3_isWithin l a (nI 0) (nI 3) ) kS_X3_32 ⟨rfl, rfl⟩ ⟨Nat.le_of_ble_eq_true rfl, Nat.le_of_ble_eq_true rfl⟩ rfl hl (Nat.le_of_ble_eq_true rfl) ⟨show _ ≤ (0 : Nat) by omega, show _ ≤ (0 : Nat) by omega⟩ dX3_permit_10 ?_
  refine lv_bif_eq (tgt := 30) hx hb dX3_permit_13 (by decide) (fun c_13 => ?_) (fun c_13 => ?_)
  · skip
    exact absurd (c_13.symm.trans ha) (by decide)
  · skip
    refine lv_iload_n hx hb dX3_permit_16 rfl (lv_at hl 4 rfl) ?_
    refine lv_aload_n hx hb dX3_permit_17 rfl (lv_at hl 1 rfl) ?_
    refine pi_get hx hb hC hown hP fL_X3_22 0 0 cX_0 (v := .int (nI (c.R 0 0))) rfl dX3_permit_18 ?_
    have g_2 : c.R 0 0 ≤ 400 := wfx.nt
    refine lv_sipushN hx hb 400 dX3_permit_21 (by decide) ?_
    refine ro_S (As := [.int b, .int (nI (c.R 0 0)), .int (nI 400)]) (rest := []) (v := bI (isInS b (nI (c.R 0 0)) (nI 400))) hx hb hml hown hC hS hAb (mX3_isWithin l b (nI (c.R 0 0)) (nI 400) ) kS_X3_32 ⟨rfl, rfl⟩ ⟨Nat.le_of_ble_eq_true rfl, Nat.le_of_ble_eq_true rfl⟩ rfl hl (Nat.le_of_ble_eq_true rfl) ⟨show _ ≤ (0 : Nat) by omega, show _ ≤ (0 : Nat) by omega⟩ dX3_permit_24 ?_
    refine lv_bif_ne (tgt := 40) hx hb dX3_permit_27 (by decide) (fun c_27 => ?_) (fun c_27 => ?_)
    · skip
      refine lv_aload hx hb dX3_permit_40 (lv_at hl 0 rfl) ?_
      refine lv_aload_n hx hb dX3_permit_42 rfl (lv_at hl 1 rfl) ?_
      refine pi_get hx hb hC hown hP fL_X3_22 0 0 cX_0 (v := .int (nI (c.R 0 0))) rfl dX3_permit_43 ?_
      refine ro_V (As := [.int (nI (c.R 0 0))]) (h0 := ad 3 i) (rest := []) (v := pcS c i (nI (c.R 0 0))) hx hb hml hown hC hS hAb (mX2_permittedCrew l hX i (nI (c.R 0 0)) hg_1) kV_X3_74 ⟨rfl, rfl⟩ ⟨Nat.le_of_ble_eq_true rfl, Nat.le_of_ble_eq_true rfl⟩ (hP.recv hC (cX_3 hg_1) rfl) rfl hl (Nat.le_of_ble_eq_true rfl) ⟨show _ ≤ (0 : Nat) by omega, show _ ≤ (0 : Nat) by omega⟩ dX3_permit_46 ?_
      refine lv_istore (lv' := [(5, .int (pcS c i (nI (c.R 0 0)))), (4, .ref (ad 3 i)), (0, .ref (ad 0 0)), (1, .int (nI i)), (2, .int a), (3, .int b)]) hx hb dX3_permit_49 hl (by decide) rfl (fun ls hl => ?_)
      refine lv_aload hx hb dX3_permit_51 (lv_at hl 1 rfl) ?_
      refine lv_iload_n hx hb dX3_permit_53 rfl (lv_at hl 4 rfl) ?_
      refine pwX_permitCrew (R := c.R) (I := c.I) (B := c.B) (Wr := c.Wr) (S := c.sh) hx hb hC hown hX hS hA fP_X3_78 i hg_1 (v := a) (WF.uI wfx (by decide)) dX3_permit_54 (fun H locs hX hS => ?_)
      obtain ⟨hP, hly, hLb, wfx⟩ := id hX
      refine lv_aload hx hb dX3_permit_57 (lv_at hl 1 rfl) ?_
      refine lv_iload_n hx hb dX3_permit_59 rfl (lv_at hl 5 rfl) ?_
      refine pwX_permitUpTo (R := c.R) (I := up2 c.I 4 i a) (B := c.B) (Wr := c.Wr) (S := c.sh) hx hb hC hown hX hS hA fP_X3_81 i hg_1 (v := b) (WF.uI wfx (by decide)) dX3_permit_60 (fun H locs hX hS => ?_)
      obtain ⟨hP, hly, hLb, wfx⟩ := id hX
      refine lv_iload hx hb dX3_permit_63 (lv_at hl 0 rfl) ?_
      exact mu_iret (x := pcS c i (nI (c.R 0 0))) hx hb hr hlocks hS (hX) (by first | rfl | (simp [c_13, c_27]; done) | (simp [c_13, c_27]; omega) | (simp_all [c_13, c_27]; done)) dX3_permit_65
    · skip
      exact absurd (c_27.symm.trans hb2) (by decide)
set_option maxHeartbeats 4000000 in
set_option maxRecDepth 100000 in
theorem mX3_watch_g (l : Launch) {E : En} {c : Cy} {ly : Ly} {L : List Nat} {ad : Nat → Nat → Nat} {H0 : Heap} (hX : PX E c ly L ad H0) (i a b : Nat) (hi : i < c.R 10 0) (ha : isInS (nI a) (nI 0) (nI 359) = true) (hb2 : isInS (nI b) (nI a) (nI 359) = true) (ha3 : a < 360) : MuI l yX3_watch cX3_watch 5 .int (rmk 4 0 0 85) [.ref (ad 0 0), .int (nI i), .int (nI a), .int (nI b)] E H0 (nI b - nI a + nI 1) (fun H1 => PX E (c.R, waI c i a b, c.B, c.Wr, c.sh) ly L ad H1) (cA L H0) 0 0 := by
  obtain ⟨hP, hly, hLb, wf⟩ := id hX
  have wfx := wf
  refine ro_of (by decide) (Nat.le_of_ble_eq_true rfl) ?_
  intro p e s m below meth co ls hx hb hr hml hown hlocks hnm hC hU hl
  have hS : va_S (cA L H0) s.heap H0 [] := by rw [hU]; exact va_S.rf
  have hA : ∀ q, q ∈ L → cA L H0 q := fun q h => Or.inl h
  have hN : ∀ q, s.heap.size ≤ q → cA L H0 q := fun q h => Or.inr (by rw [← hU]; exact h)
  have hAb : ∀ q, cA L H0 q → bA E q := fun q h => h.elim (hLb q) (fun z => Nat.le_trans hC.2.2.2.1 (by rw [hU]; exact z))
  have hl : lv_has ls 5 [(0, .ref (ad 0 0)), (1, .int (nI i)), (2, .int (nI a)), (3, .int (nI b))] := hl
  refine lv_aload_n hx hb dX3_watch_0 rfl (lv_at hl 0 rfl) ?_
  refine lv_iload_n hx hb dX3_watch_1 rfl (lv_at hl 1 rfl) ?_
  refine ro_VR (As := [.int (nI i)]) (h0 := ad 0 0) (rest := []) (v := some (ad 3 i)) hx hb hml hown hC hS hAb (mX3_wallAt_g l hX i (show i < c.R 10 0 by first | assumption | omega | decide | (simp only [decide_eq_false_iff_not, decide_eq_true_eq] at *; omega))) kV_X3_68 ⟨rfl, rfl⟩ ⟨Nat.le_of_ble_eq_true rfl, Nat.le_of_ble_eq_true rfl⟩ (hP.recv hC cX_0 rfl) rfl hl (Nat.le_of_ble_eq_true rfl) ⟨show _ ≤ (0 : Nat) by omega, show _ ≤ (0 : Nat) by omega⟩ dX3_watch_2 ?_
  have hg_1 : i < c.R 11 0 := by have := wf.sw; have := wf.sh'; have := wf.sl; omega
  refine lv_astore (lv' := [(4, .ref (ad 3 i)), (0, .ref (ad 0 0)), (1, .int (nI i)), (2, .int (nI a)), (3, .int (nI b))]) hx hb dX3_watch_5 hl (by decide) rfl (fun ls hl => ?_)
  refine lv_iload_n hx hb dX3_watch_7 rfl (lv_at hl 3 rfl) ?_
  refine lv_iconstN hx hb 0 dX3_watch_8 (by decide) ?_
  refine lv_sipushN hx hb 359 dX3_watch_9 (by decide) ?_
  refine ro_S (As := [.int (nI a), .int (nI 0), .int (nI 359)]) (rest := []) (v := bI (isInS (nI a) (nI 0) (nI 359))) hx hb hml hown hC hS hAb (mX3_isWithin l (nI a) (nI 0) (nI 359) ) kS_X3_32 ⟨rfl, rfl⟩ ⟨Nat.le_of_ble_eq_true rfl, Nat.le_of_ble_eq_true rfl⟩ rfl hl (Nat.le_of_ble_eq_true rfl) ⟨show _ ≤ (0 : Nat) by omega, show _ ≤ (0 : Nat) by omega⟩ dX3_watch_12 ?_
  refine lv_bif_eq (tgt := 29) hx hb dX3_watch_15 (by decide) (fun c_15 => ?_) (fun c_15 => ?_)
  · skip
    exact absurd (c_15.symm.trans ha) (by decide)
  · skip
    refine lv_iload_n hx hb dX3_watch_18 rfl (lv_at hl 4 rfl) ?_
    refine lv_iload_n hx hb dX3_watch_19 rfl (lv_at hl 3 rfl) ?_
    refine lv_sipushN hx hb 359 dX3_watch_20 (by decide) ?_
    refine ro_S (As := [.int (nI b), .int (nI a), .int (nI 359)]) (rest := []) (v := bI (isInS (nI b) (nI a) (nI 359))) hx hb hml hown hC hS hAb (mX3_isWithin l (nI b) (nI a) (nI 359) ) kS_X3_32 ⟨rfl, rfl⟩ ⟨Nat.le_of_ble_eq_true rfl, Nat.le_of_ble_eq_true rfl⟩ rfl hl (Nat.le_of_ble_eq_true rfl) ⟨show _ ≤ (0 : Nat) by omega, show _ ≤ (0 : Nat) by omega⟩ dX3_watch_23 ?_
    refine lv_bif_ne (tgt := 39) hx hb dX3_watch_26 (by decide) (fun c_26 => ?_) (fun c_26 => ?_)
    · skip
      refine lv_aload hx hb dX3_watch_39 (lv_at hl 0 rfl) ?_
      refine lv_iload_n hx hb dX3_watch_41 rfl (lv_at hl 3 rfl) ?_
      refine pwX_watchFrom (R := c.R) (I := c.I) (B := c.B) (Wr := c.Wr) (S := c.sh) hx hb hC hown hX hS hA fP_X3_86 i hg_1 (v := nI a) (WF.uI6 wfx (nI_pos (by omega))) dX3_watch_42 (fun H locs hX hS => ?_)
      obtain ⟨hP, hly, hLb, wfx⟩ := id hX
      refine lv_aload hx hb dX3_watch_45 (lv_at hl 0 rfl) ?_
      refine lv_iload_n hx hb dX3_watch_47 rfl (lv_at hl 4 rfl) ?_
      refine pwX_watchTo (R := c.R) (I := up2 c.I 6 i (nI a)) (B := c.B) (Wr := c.Wr) (S := c.sh) hx hb hC hown hX hS hA fP_X3_89 i hg_1 (v := nI b) (WF.uI7 wfx (by rw [up2_same]; exact nI_pos (by omega))) dX3_watch_48 (fun H locs hX hS => ?_)
      obtain ⟨hP, hly, hLb, wfx⟩ := id hX
      refine lv_iload_n hx hb dX3_watch_51 rfl (lv_at hl 4 rfl) ?_
      refine lv_iload_n hx hb dX3_watch_52 rfl (lv_at hl 3 rfl) ?_
      refine lv_isub hx hb dX3_watch_53 ?_
      refine lv_iconstN hx hb 1 dX3_watch_54 (by decide) ?_
      refine lv_iadd hx hb dX3_watch_55 ?_
      exact mu_iret (x := ((nI b) - (nI a)) + (nI 1)) hx hb hr hlocks hS (hX) (by first | rfl | (simp [c_15, c_26]; done) | (simp [c_15, c_26]; omega) | (simp_all [c_15, c_26]; done)) dX3_watch_56
    · skip
      exact absurd (c_26.symm.trans hb2) (by decide)
set_option maxHeartbeats 4000000 in
set_option maxRecDepth 100000 in
theorem mX3_pay_g (l : Launch) {E : En} {c : Cy} {ly : Ly} {L : List Nat} {ad : Nat → Nat → Nat} {H0 : Heap} (hX : PX E c ly L ad H0) (h : Nat) (hh : h < c.R 10 1) : MuI l yX3_pay cX3_pay 4 .int (rmk 4 0 0 85) [.ref (ad 0 0), .int (nI h)] E H0 (c.I 11 h) (fun H1 => PX E (c.R, up2 c.I 11 h (nI 0), c.B, c.Wr, c.sh) ly L ad H1) (cA L H0) 0 0 := by
  obtain ⟨hP, hly, hLb, wf⟩ := id hX
  have wfx := wf
  refine ro_of (by decide) (Nat.le_of_ble_eq_true rfl) ?_
  intro p e s m below meth co ls hx hb hr hml hown hlocks hnm hC hU hl
  have hS : va_S (cA L H0) s.heap H0 [] := by rw [hU]; exact va_S.rf
  have hA : ∀ q, q ∈ L → cA L H0 q := fun q h => Or.inl h
  have hN : ∀ q, s.heap.size ≤ q → cA L H0 q := fun q h => Or.inr (by rw [← hU]; exact h)
  have hAb : ∀ q, cA L H0 q → bA E q := fun q h => h.elim (hLb q) (fun z => Nat.le_trans hC.2.2.2.1 (by rw [hU]; exact z))
  have hl : lv_has ls 4 [(0, .ref (ad 0 0)), (1, .int (nI h))] := hl
  refine lv_aload_n hx hb dX3_pay_0 rfl (lv_at hl 0 rfl) ?_
  refine lv_iload_n hx hb dX3_pay_1 rfl (lv_at hl 1 rfl) ?_
  refine ro_VR (As := [.int (nI h)]) (h0 := ad 0 0) (rest := []) (v := some (ad 5 h)) hx hb hml hown hC hS hAb (mX3_handAt_g l hX h (show h < c.R 10 1 by first | assumption | omega | decide | (simp only [decide_eq_false_iff_not, decide_eq_true_eq] at *; omega))) kV_X3_92 ⟨rfl, rfl⟩ ⟨Nat.le_of_ble_eq_true rfl, Nat.le_of_ble_eq_true rfl⟩ (hP.recv hC cX_0 rfl) rfl hl (Nat.le_of_ble_eq_true rfl) ⟨show _ ≤ (0 : Nat) by omega, show _ ≤ (0 : Nat) by omega⟩ dX3_pay_2 ?_
  have hg_1 : h < c.R 11 1 := by have := wf.sw; have := wf.sh'; have := wf.sl; omega
  refine lv_astore_n (lv' := [(2, .ref (ad 5 h)), (0, .ref (ad 0 0)), (1, .int (nI h))]) hx hb dX3_pay_5 rfl hl (by decide) rfl (fun ls hl => ?_)
  refine lv_aload_n hx hb dX3_pay_6 rfl (lv_at hl 0 rfl) ?_
  refine pi_get hx hb hC hown hP fL_X3_208 5 h (cX_5 hg_1) (v := .int (c.I 11 h)) rfl dX3_pay_7 ?_
  refine lv_istore_n (lv' := [(3, .int (c.I 11 h)), (2, .ref (ad 5 h)), (0, .ref (ad 0 0)), (1, .int (nI h))]) hx hb dX3_pay_10 rfl hl (by decide) rfl (fun ls hl => ?_)
  refine lv_aload_n hx hb dX3_pay_11 rfl (lv_at hl 1 rfl) ?_
  refine lv_iconstN hx hb 0 dX3_pay_12 (by decide) ?_
  refine pwX_fines (R := c.R) (I := c.I) (B := c.B) (Wr := c.Wr) (S := c.sh) hx hb hC hown hX hS hA fP_X3_208 h hg_1 (v := nI 0) (WF.uI wfx (by decide)) dX3_pay_13 (fun H locs hX hS => ?_)
  obtain ⟨hP, hly, hLb, wfx⟩ := id hX
  refine lv_iload_n hx hb dX3_pay_16 rfl (lv_at hl 0 rfl) ?_
  exact mu_iret (x := c.I 11 h) hx hb hr hlocks hS (hX) (by first | rfl | (simp []; done) | (simp []; omega) | (simp_all []; done)) dX3_pay_17

set_option maxHeartbeats 4000000 in
set_option maxRecDepth 100000 in
theorem mX3_remember_g (l : Launch) {E : En} {c : Cy} {ly : Ly} {L : List Nat} {ad : Nat → Nat → Nat} {H0 : Heap} (hX : PX E c ly L ad H0) (j : Nat) (hj : j < c.R 10 2) : MuI l yX3_remember cX3_remember 4 .boolean (rmk 4 0 0 85) [.ref (ad 0 0), .int (nI j)] E H0 (bI (!c.B 3 j)) (fun H1 => PX E (c.R, c.I, up2 c.B 3 j true, c.Wr, c.sh) ly L ad H1) (cA L H0) 0 0 := by
  obtain ⟨hP, hly, hLb, wf⟩ := id hX
  have wfx := wf
  refine ro_of (by decide) (Nat.le_of_ble_eq_true rfl) ?_
  intro p e s m below meth co ls hx hb hr hml hown hlocks hnm hC hU hl
  have hS : va_S (cA L H0) s.heap H0 [] := by rw [hU]; exact va_S.rf
  have hA : ∀ q, q ∈ L → cA L H0 q := fun q h => Or.inl h
  have hN : ∀ q, s.heap.size ≤ q → cA L H0 q := fun q h => Or.inr (by rw [← hU]; exact h)
  have hAb : ∀ q, cA L H0 q → bA E q := fun q h => h.elim (hLb q) (fun z => Nat.le_trans hC.2.2.2.1 (by rw [hU]; exact z))
  have hl : lv_has ls 4 [(0, .ref (ad 0 0)), (1, .int (nI j))] := hl
  refine lv_aload_n hx hb dX3_remember_0 rfl (lv_at hl 0 rfl) ?_
  refine lv_iload_n hx hb dX3_remember_1 rfl (lv_at hl 1 rfl) ?_
  refine ro_VR (As := [.int (nI j)]) (h0 := ad 0 0) (rest := []) (v := some (ad 7 j)) hx hb hml hown hC hS hAb (mX3_layerAt_g l hX j (show j < c.R 10 2 by first | assumption | omega | decide | (simp only [decide_eq_false_iff_not, decide_eq_true_eq] at *; omega))) kV_X3_182 ⟨rfl, rfl⟩ ⟨Nat.le_of_ble_eq_true rfl, Nat.le_of_ble_eq_true rfl⟩ (hP.recv hC cX_0 rfl) rfl hl (Nat.le_of_ble_eq_true rfl) ⟨show _ ≤ (0 : Nat) by omega, show _ ≤ (0 : Nat) by omega⟩ dX3_remember_2 ?_
  have hg_1 : j < c.R 11 2 := by have := wf.sw; have := wf.sh'; have := wf.sl; omega
  refine lv_astore_n (lv' := [(2, .ref (ad 7 j)), (0, .ref (ad 0 0)), (1, .int (nI j))]) hx hb dX3_remember_5 rfl hl (by decide) rfl (fun ls hl => ?_)
  refine lv_aload_n hx hb dX3_remember_6 rfl (lv_at hl 0 rfl) ?_
  refine pi_get hx hb hC hown hP fL_X3_205 7 j (cX_7 hg_1) (v := .int (bI (c.B 3 j))) rfl dX3_remember_7 ?_
  refine lv_bif_ne (tgt := 17) hx hb dX3_remember_10 (by decide) (fun c_10 => ?_) (fun c_10 => ?_)
  · skip
    refine lv_iconstN hx hb 0 dX3_remember_17 (by decide) ?_
    refine lv_istore_n (lv' := [(3, .int (nI 0)), (2, .ref (ad 7 j)), (0, .ref (ad 0 0)), (1, .int (nI j))]) hx hb dX3_remember_18 rfl hl (by decide) rfl (fun ls hl => ?_)
    refine lv_aload_n hx hb dX3_remember_19 rfl (lv_at hl 1 rfl) ?_
    refine lv_iconstN hx hb 1 dX3_remember_20 (by decide) ?_
    refine pwX_memorial (R := c.R) (I := c.I) (B := c.B) (Wr := c.Wr) (S := c.sh) hx hb hC hown hX hS hA fP_X3_205 j hg_1 (v := true) (WF.uB wfx _) dX3_remember_21 (fun H locs hX hS => ?_)
    obtain ⟨hP, hly, hLb, wfx⟩ := id hX
    refine lv_iload_n hx hb dX3_remember_24 rfl (lv_at hl 0 rfl) ?_
    exact mu_zretB (b1 := false) hx hb hr hlocks hS (hX) (by decide) (by first | rfl | (simp [c_10]; done) | (simp [c_10]; omega) | (simp_all [c_10]; done)) dX3_remember_25
  · skip
    refine lv_iconstN hx hb 1 dX3_remember_13 (by decide) ?_
    refine lv_goto (tgt := 18) hx hb dX3_remember_14 (by decide) ?_
    refine lv_istore_n (lv' := [(3, .int (nI 1)), (2, .ref (ad 7 j)), (0, .ref (ad 0 0)), (1, .int (nI j))]) hx hb dX3_remember_18 rfl hl (by decide) rfl (fun ls hl => ?_)
    refine lv_aload_n hx hb dX3_remember_19 rfl (lv_at hl 1 rfl) ?_
    refine lv_iconstN hx hb 1 dX3_remember_20 (by decide) ?_
    refine pwX_memorial (R := c.R) (I := c.I) (B := c.B) (Wr := c.Wr) (S := c.sh) hx hb hC hown hX hS hA fP_X3_205 j hg_1 (v := true) (WF.uB wfx _) dX3_remember_21 (fun H locs hX hS => ?_)
    obtain ⟨hP, hly, hLb, wfx⟩ := id hX
    refine lv_iload_n hx hb dX3_remember_24 rfl (lv_at hl 0 rfl) ?_
    exact mu_zretB (b1 := true) hx hb hr hlocks hS (hX) (by decide) (by first | rfl | (simp [c_10]; done) | (simp [c_10]; omega) | (simp_all [c_10]; done)) dX3_remember_25
set_option maxHeartbeats 4000000 in
set_option maxRecDepth 100000 in
theorem mX3_buff_g (l : Launch) {E : En} {c : Cy} {ly : Ly} {L : List Nat} {ad : Nat → Nat → Nat} {H0 : Heap} (hX : PX E c ly L ad H0) (i : Nat) (hi : i < c.R 10 0) (hc : ¬ c.I 0 0 < nI (ctbS c i)) : MuI l yX3_buff cX3_buff 5 .int (rmk 4 0 0 89) [.ref (ad 0 0), .int (nI i)] E H0 (nI (ctbS c i)) (fun H1 => PX E (c.R, up2 c.I 0 0 (c.I 0 0 - nI (ctbS c i)), c.B, c.Wr, mk1 c.sh i (c.R 1 i) (tbS c i)) ly L ad H1) (cA L H0) 0 0 := by
  obtain ⟨hP, hly, hLb, wf⟩ := id hX
  have wfx := wf
  refine ro_of (by decide) (Nat.le_of_ble_eq_true rfl) ?_
  intro p e s m below meth co ls hx hb hr hml hown hlocks hnm hC hU hl
  have hS : va_S (cA L H0) s.heap H0 [] := by rw [hU]; exact va_S.rf
  have hA : ∀ q, q ∈ L → cA L H0 q := fun q h => Or.inl h
  have hN : ∀ q, s.heap.size ≤ q → cA L H0 q := fun q h => Or.inr (by rw [← hU]; exact h)
  have hAb : ∀ q, cA L H0 q → bA E q := fun q h => h.elim (hLb q) (fun z => Nat.le_trans hC.2.2.2.1 (by rw [hU]; exact z))
  have hl : lv_has ls 5 [(0, .ref (ad 0 0)), (1, .int (nI i))] := hl
  have hi2 : i < c.R 11 0 := by have := wf.sw; omega
  have gw := wf.wd hi2
  refine lv_aload_n hx hb dX3_buff_0 rfl (lv_at hl 0 rfl) ?_
  refine lv_iload_n hx hb dX3_buff_1 rfl (lv_at hl 1 rfl) ?_
  refine ro_VR (As := [.int (nI i)]) (h0 := ad 0 0) (rest := []) (v := some (ad 3 i)) hx hb hml hown hC hS hAb (mX3_wallAt_g l hX i (show i < c.R 10 0 by first | assumption | omega | decide | (simp only [decide_eq_false_iff_not, decide_eq_true_eq] at *; omega))) kV_X3_68 ⟨rfl, rfl⟩ ⟨Nat.le_of_ble_eq_true rfl, Nat.le_of_ble_eq_true rfl⟩ (hP.recv hC cX_0 rfl) rfl hl (Nat.le_of_ble_eq_true rfl) ⟨show _ ≤ (0 : Nat) by omega, show _ ≤ (0 : Nat) by omega⟩ dX3_buff_2 ?_
  have hg_1 : i < c.R 11 0 := by have := wf.sw; have := wf.sh'; have := wf.sl; omega
  refine lv_astore_n (lv' := [(2, .ref (ad 3 i)), (0, .ref (ad 0 0)), (1, .int (nI i))]) hx hb dX3_buff_5 rfl hl (by decide) rfl (fun ls hl => ?_)
  refine lv_aload_n hx hb dX3_buff_6 rfl (lv_at hl 1 rfl) ?_
  refine lv_aload_n hx hb dX3_buff_7 rfl (lv_at hl 0 rfl) ?_
  refine ro_V (As := [.ref (ad 3 i)]) (h0 := ad 0 0) (rest := []) (v := nI (ctbS c i)) hx hb hml hown hC hS hAb (mX3_cellsToBuff l hX i hg_1) kV_X3_148 ⟨rfl, rfl⟩ ⟨Nat.le_of_ble_eq_true rfl, Nat.le_of_ble_eq_true rfl⟩ (hP.recv hC cX_0 rfl) rfl hl (Nat.le_of_ble_eq_true rfl) ⟨show _ ≤ (0 : Nat) by omega, show _ ≤ (0 : Nat) by omega⟩ dX3_buff_8 ?_
  refine lv_istore_n (lv' := [(3, .int (nI (ctbS c i))), (2, .ref (ad 3 i)), (0, .ref (ad 0 0)), (1, .int (nI i))]) hx hb dX3_buff_11 rfl hl (by decide) rfl (fun ls hl => ?_)
  refine lv_iload_n hx hb dX3_buff_12 rfl (lv_at hl 0 rfl) ?_
  refine lv_aload_n hx hb dX3_buff_13 rfl (lv_at hl 2 rfl) ?_
  refine pi_get hx hb hC hown hP fL_X3_26 0 0 cX_0 (v := .int (c.I 0 0)) rfl dX3_buff_14 ?_
  refine lv_icmp_le (tgt := 30) hx hb dX3_buff_17 (by decide) (fun c_17 => ?_) (fun c_17 => ?_)
  · skip
    have c_17 := Int32.not_lt.mpr c_17
    refine lv_iconstN hx hb 0 dX3_buff_30 (by decide) ?_
    refine lv_istore (lv' := [(4, .int (nI 0)), (3, .int (nI (ctbS c i))), (2, .ref (ad 3 i)), (0, .ref (ad 0 0)), (1, .int (nI i))]) hx hb dX3_buff_31 hl (by decide) rfl (fun ls hl => ?_)
    have lp33 : ∀ fu : Nat, ∀ (k : Nat), k ≤ c.R 1 i → c.R 1 i - k < fu → ∀ (H : Heap) (locs : List Loc), PX E (c.R, c.I, c.B, c.Wr, mk1 c.sh i k (tbS c i)) ly L ad H → va_S (cA L H0) s.heap H locs → ∀ ls : Array Slot, lv_has ls 5 [(0, .ref (ad 0 0)), (2, .ref (ad 3 i)), (3, .int (nI (ctbS c i))), (4, .int (nI k))] → W p l e (rmk 4 0 0 89) s m ([.ref (ad 0 0), .int (nI i)] : List Value).toArray below meth co H locs 0 0 (MQ below (QiM (nI (ctbS c i)) (fun H1 => PX E (c.R, up2 c.I 0 0 (c.I 0 0 - nI (ctbS c i)), c.B, c.Wr, mk1 c.sh i (c.R 1 i) (tbS c i)) ly L ad H1) (cA L H0)) ([.ref (ad 0 0), .int (nI i)] : List Value).toArray s 0 0 (cA L H0)) (F0 m 33 ls []) := by
      intro fu
      induction fu with
      | zero => intro k hk hfu; exact absurd hfu (Nat.not_lt_zero _)
      | succ fu ih33 =>
        intro k hk hfu H locs hX hS ls hl
        obtain ⟨hP, hly, hLb, wfx⟩ := id hX
        refine lv_iload hx hb dX3_buff_33 (lv_at hl 3 rfl) ?_
        refine lv_aload_n hx hb dX3_buff_35 rfl (lv_at hl 1 rfl) ?_
        refine pi_get hx hb hC hown hP fL_X3_154 3 i (cX_3 hg_1) (v := .int (nI (c.R 1 i))) rfl dX3_buff_36 ?_
        have g_2 : 4 ≤ c.R 1 i ∧ c.R 1 i ≤ 16 := wfx.wd hg_1
        refine lv_icmpN_ge (tgt := 66) hx hb dX3_buff_39 (by decide) (by omega) (by omega) (fun c_39 => ?_) (fun c_39 => ?_)
        · skip
          refine lv_aload_n hx hb dX3_buff_66 rfl (lv_at hl 0 rfl) ?_
          refine lv_dup hx hb dX3_buff_67 rfl ?_
          refine pi_get hx hb hC hown hP fL_X3_26 0 0 cX_0 (v := .int (c.I 0 0)) rfl dX3_buff_68 ?_
          refine lv_iload_n hx hb dX3_buff_71 rfl (lv_at hl 2 rfl) ?_
          refine lv_isub hx hb dX3_buff_72 ?_
          refine pwX_coins (R := c.R) (I := c.I) (B := c.B) (Wr := c.Wr) (S := mk1 c.sh i k (tbS c i)) hx hb hC hown hX hS hA fP_X3_26 (v := (c.I 0 0) - (nI (ctbS c i))) (WF.uI wfx (by decide)) dX3_buff_73 (fun H locs hX hS => ?_)
          obtain ⟨hP, hly, hLb, wfx⟩ := id hX
          refine lv_iload_n hx hb dX3_buff_76 rfl (lv_at hl 2 rfl) ?_
          exact mu_iret (x := nI (ctbS c i)) hx hb hr hlocks hS (by have z : k = c.R 1 i := (by omega); show PX _ _ _ _ _ _; rw [← z]; exact hX) (by first | rfl | (simp [c_17, c_39]; done) | (simp [c_17, c_39]; omega) | (simp_all [c_17, c_39]; done)) dX3_buff_77
        · skip
          refine lv_aload_n hx hb dX3_buff_42 rfl (lv_at hl 0 rfl) ?_
          refine lv_aload_n hx hb dX3_buff_43 rfl (lv_at hl 1 rfl) ?_
          refine lv_iload hx hb dX3_buff_44 (lv_at hl 3 rfl) ?_
          refine ro_V (As := [.ref (ad 3 i), .int (nI k)]) (h0 := ad 0 0) (rest := []) (v := bI (tbS (c.R, c.I, c.B, c.Wr, mk1 c.sh i k (tbS c i)) i k)) hx hb hml hown hC hS hAb (mX3_isToBuff l hX i k hg_1 (show k < c.R 1 i by first | assumption | omega | decide | (simp only [decide_eq_false_iff_not, decide_eq_true_eq] at *; omega))) kV_X3_157 ⟨rfl, rfl⟩ ⟨Nat.le_of_ble_eq_true rfl, Nat.le_of_ble_eq_true rfl⟩ (hP.recv hC cX_0 rfl) rfl hl (Nat.le_of_ble_eq_true rfl) ⟨show _ ≤ (0 : Nat) by omega, show _ ≤ (0 : Nat) by omega⟩ dX3_buff_46 ?_
          refine lv_bif_eq (tgt := 60) hx hb dX3_buff_49 (by decide) (fun c_49 => ?_) (fun c_49 => ?_)
          · skip
            refine lv_iincN (v := 1) (lv' := [(4, .int (nI (k + 1))), (0, .ref (ad 0 0)), (2, .ref (ad 3 i)), (3, .int (nI (ctbS c i)))]) hx hb dX3_buff_60 hl (k := 3) rfl (by decide) (by decide) rfl (fun ls hl => ?_)
            refine lv_goto (tgt := 33) hx hb dX3_buff_63 (by decide) ?_
            have esh : mk1 c.sh i k (tbS c i) = mk1 c.sh i (k + 1) (tbS c i) := by first | exact mk1_t ((tbS_c (c := c) (I := c.I) (mk1_at (S := c.sh) (P := tbS c i))).symm.trans c_49) | exact mk1_f ((tbS_c (c := c) (I := c.I) (mk1_at (S := c.sh) (P := tbS c i))).symm.trans c_49)
            have hX : PX E (c.R, c.I, c.B, c.Wr, mk1 c.sh i (k + 1) (tbS c i)) ly L ad H := by rw [← esh]; exact hX
            exact ih33 (k + 1) (by first | rfl | assumption | omega | (simp [c_17, c_39, c_49]; done) | (simp_all [c_17, c_39, c_49]; done)) (by omega) _ _ hX hS _ (lv_sub hl [1, 2, 3, 0] rfl)
          · skip
            refine lv_aload_n hx hb dX3_buff_52 rfl (lv_at hl 1 rfl) ?_
            refine pi_get hx hb hC hown hP fL_X3_161 3 i (cX_3 hg_1) (v := .ref (ad 4 i)) rfl dX3_buff_53 ?_
            have g_3 : 4 ≤ c.R 1 i ∧ c.R 1 i ≤ 16 := wfx.wd hg_1
            refine lv_iload hx hb dX3_buff_56 (lv_at hl 3 rfl) ?_
            refine lv_null hx hb dX3_buff_58 ?_
            refine pwX_shownN (R := c.R) (I := c.I) (B := c.B) (Wr := c.Wr) (S := mk1 c.sh i k (tbS c i)) hx hb hC hX hS hA i hg_1 (y := k) (by first | assumption | omega) (by omega) (WF.uS wfx (fun _ z => by cases z)) dX3_buff_59 (fun H locs hX hS => ?_)
            obtain ⟨hP, hly, hLb, wfx⟩ := id hX
            refine lv_iincN (v := 1) (lv' := [(4, .int (nI (k + 1))), (0, .ref (ad 0 0)), (2, .ref (ad 3 i)), (3, .int (nI (ctbS c i)))]) hx hb dX3_buff_60 hl (k := 3) rfl (by decide) (by decide) rfl (fun ls hl => ?_)
            refine lv_goto (tgt := 33) hx hb dX3_buff_63 (by decide) ?_
            have esh : up2 (mk1 c.sh i k (tbS c i)) i k none = mk1 c.sh i (k + 1) (tbS c i) := by first | exact mk1_t ((tbS_c (c := c) (I := c.I) (mk1_at (S := c.sh) (P := tbS c i))).symm.trans c_49) | exact mk1_f ((tbS_c (c := c) (I := c.I) (mk1_at (S := c.sh) (P := tbS c i))).symm.trans c_49)
            have hX : PX E (c.R, c.I, c.B, c.Wr, mk1 c.sh i (k + 1) (tbS c i)) ly L ad H := by rw [← esh]; exact hX
            exact ih33 (k + 1) (by first | rfl | assumption | omega | (simp [c_17, c_39, c_49]; done) | (simp_all [c_17, c_39, c_49]; done)) (by omega) _ _ hX hS _ (lv_sub hl [1, 2, 3, 0] rfl)
    have esh : c.sh = mk1 c.sh i 0 (tbS c i) := mk1_0.symm
    have hX : PX E (c.R, c.I, c.B, c.Wr, mk1 c.sh i 0 (tbS c i)) ly L ad H0 := by rw [← esh]; exact hX
    exact lp33 (c.R 1 i - 0 + 1) 0 (by first | rfl | assumption | omega | (simp [c_17]; done) | (simp_all [c_17]; done)) (Nat.lt_succ_self _) _ _ hX hS _ (lv_sub hl [3, 2, 1, 0] rfl)
  · skip
    have c_17 := Int32.not_le.mp c_17
    exact absurd c_17 hc
set_option maxHeartbeats 4000000 in
set_option maxRecDepth 100000 in
theorem mX3_sell_g (l : Launch) {E : En} {c : Cy} {ly : Ly} {L : List Nat} {ad : Nat → Nat → Nat} {H0 : Heap} (hX : PX E c ly L ad H0) (j : Nat) (hj : j < c.R 10 2) (hs : decide (0 < seenS c j) = true) : MuI l yX3_sell cX3_sell 4 .int (rmk 5 0 0 110) [.ref (ad 0 0), .int (nI j)] E H0 (prS c j) (fun H1 => PX E (c.R, up2 c.I 1 0 (c.I 1 0 + prS c j), c.B, c.Wr, mk1 c.sh (c.R 6 j) (c.R 1 (c.R 6 j)) (shwB c (c.R 6 j) j)) ly L ad H1) (cA L H0) 0 0 := by
  obtain ⟨hP, hly, hLb, wf⟩ := id hX
  have wfx := wf
  refine ro_of (by decide) (Nat.le_of_ble_eq_true rfl) ?_
  intro p e s m below meth co ls hx hb hr hml hown hlocks hnm hC hU hl
  have hS : va_S (cA L H0) s.heap H0 [] := by rw [hU]; exact va_S.rf
  have hA : ∀ q, q ∈ L → cA L H0 q := fun q h => Or.inl h
  have hN : ∀ q, s.heap.size ≤ q → cA L H0 q := fun q h => Or.inr (by rw [← hU]; exact h)
  have hAb : ∀ q, cA L H0 q → bA E q := fun q h => h.elim (hLb q) (fun z => Nat.le_trans hC.2.2.2.1 (by rw [hU]; exact z))
  have hl : lv_has ls 4 [(0, .ref (ad 0 0)), (1, .int (nI j))] := hl
  refine lv_aload_n hx hb dX3_sell_0 rfl (lv_at hl 0 rfl) ?_
  refine lv_iload_n hx hb dX3_sell_1 rfl (lv_at hl 1 rfl) ?_
  refine ro_VR (As := [.int (nI j)]) (h0 := ad 0 0) (rest := []) (v := some (ad 7 j)) hx hb hml hown hC hS hAb (mX3_layerAt_g l hX j (show j < c.R 10 2 by first | assumption | omega | decide | (simp only [decide_eq_false_iff_not, decide_eq_true_eq] at *; omega))) kV_X3_182 ⟨rfl, rfl⟩ ⟨Nat.le_of_ble_eq_true rfl, Nat.le_of_ble_eq_true rfl⟩ (hP.recv hC cX_0 rfl) rfl hl (Nat.le_of_ble_eq_true rfl) ⟨show _ ≤ (0 : Nat) by omega, show _ ≤ (0 : Nat) by omega⟩ dX3_sell_2 ?_
  have hg_1 : j < c.R 11 2 := by have := wf.sw; have := wf.sh'; have := wf.sl; omega
  refine lv_astore_n (lv' := [(2, .ref (ad 7 j)), (0, .ref (ad 0 0)), (1, .int (nI j))]) hx hb dX3_sell_5 rfl hl (by decide) rfl (fun ls hl => ?_)
  refine lv_aload_n hx hb dX3_sell_6 rfl (lv_at hl 0 rfl) ?_
  refine ro_V (As := []) (h0 := ad 7 j) (rest := []) (v := bI (decide (0 < seenS c j))) hx hb hml hown hC hS hAb (mX1_isSeen l hX j hg_1) kV_X3_186 ⟨rfl, rfl⟩ ⟨Nat.le_of_ble_eq_true rfl, Nat.le_of_ble_eq_true rfl⟩ (hP.recv hC (cX_7 hg_1) rfl) rfl hl (Nat.le_of_ble_eq_true rfl) ⟨show _ ≤ (0 : Nat) by omega, show _ ≤ (0 : Nat) by omega⟩ dX3_sell_7 ?_
  refine lv_bif_ne (tgt := 23) hx hb dX3_sell_10 (by decide) (fun c_10 => ?_) (fun c_10 => ?_)
  · skip
    refine lv_aload_n hx hb dX3_sell_23 rfl (lv_at hl 1 rfl) ?_
    refine lv_aload_n hx hb dX3_sell_24 rfl (lv_at hl 0 rfl) ?_
    refine ro_V (As := [.ref (ad 7 j)]) (h0 := ad 0 0) (rest := []) (v := prS c j) hx hb hml hown hC hS hAb (mX3_priceOf l hX j hg_1) kV_X3_191 ⟨rfl, rfl⟩ ⟨Nat.le_of_ble_eq_true rfl, Nat.le_of_ble_eq_true rfl⟩ (hP.recv hC cX_0 rfl) rfl hl (Nat.le_of_ble_eq_true rfl) ⟨show _ ≤ (0 : Nat) by omega, show _ ≤ (0 : Nat) by omega⟩ dX3_sell_25 ?_
    refine lv_istore_n (lv' := [(3, .int (prS c j)), (2, .ref (ad 7 j)), (0, .ref (ad 0 0)), (1, .int (nI j))]) hx hb dX3_sell_28 rfl hl (by decide) rfl (fun ls hl => ?_)
    refine lv_aload_n hx hb dX3_sell_29 rfl (lv_at hl 1 rfl) ?_
    refine pi_get hx hb hC hown hP fL_X3_195 7 j (cX_7 hg_1) (v := .ref (ad 3 (c.R 6 j))) rfl dX3_sell_30 ?_
    have g_2 : c.R 6 j < c.R 11 0 := wfx.lw hg_1
    refine lv_aload_n hx hb dX3_sell_33 rfl (lv_at hl 1 rfl) ?_
    refine mu_VV (As := [.ref (ad 7 j)]) (h0 := ad 3 (c.R 6 j)) (rest := []) hx hb hml hown hC hS hAb (mX2_cutOut l hX (c.R 6 j) j (show (c.R 6 j) < c.R 11 0 by first | assumption | omega | decide | (simp only [decide_eq_false_iff_not, decide_eq_true_eq] at *; omega)) hg_1) (fun q h => h.elim (hA q) (fun z => hN q (Nat.le_trans hS.1 z))) kV_X3_199 ⟨rfl, rfl⟩ ⟨Nat.le_of_ble_eq_true rfl, Nat.le_of_ble_eq_true rfl⟩ (hP.recv hC (cX_3 g_2) rfl) rfl hl (Nat.le_of_ble_eq_true rfl) ⟨show 0 + 0 ≤ (0 : Nat) by omega, show 0 + 0 ≤ (0 : Nat) by omega⟩ dX3_sell_34 (fun H locs hB hS9 hz hk => ?_)
    have hS := hS9
    have hX : PX E (c.R, c.I, c.B, c.Wr, mk1 c.sh (c.R 6 j) (c.R 1 (c.R 6 j)) (shwB c (c.R 6 j) j)) ly L ad H := hB
    obtain ⟨hP, hly, hLb, wfx⟩ := id hX
    refine lv_aload_n hx hb dX3_sell_37 rfl (lv_at hl 2 rfl) ?_
    refine lv_dup hx hb dX3_sell_38 rfl ?_
    refine pi_get hx hb hC hown hP fL_X3_29 0 0 cX_0 (v := .int (c.I 1 0)) rfl dX3_sell_39 ?_
    refine lv_iload_n hx hb dX3_sell_42 rfl (lv_at hl 0 rfl) ?_
    refine lv_iadd hx hb dX3_sell_43 ?_
    refine pwX_soldFor (R := c.R) (I := c.I) (B := c.B) (Wr := c.Wr) (S := mk1 c.sh (c.R 6 j) (c.R 1 (c.R 6 j)) (shwB c (c.R 6 j) j)) hx hb hC hown hX hS hA fP_X3_29 (v := (c.I 1 0) + (prS c j)) (WF.uI wfx (by decide)) dX3_sell_44 (fun H locs hX hS => ?_)
    obtain ⟨hP, hly, hLb, wfx⟩ := id hX
    refine lv_iload_n hx hb dX3_sell_47 rfl (lv_at hl 0 rfl) ?_
    exact mu_iret (x := prS c j) hx hb hr hlocks hS (hX) (by first | rfl | (simp [c_10]; done) | (simp [c_10]; omega) | (simp_all [c_10]; done)) dX3_sell_48
  · skip
    exact absurd (c_10.symm.trans hs) (by decide)
set_option maxHeartbeats 4000000 in
set_option maxRecDepth 100000 in
theorem mX3_clear_g (l : Launch) {E : En} {c : Cy} {ly : Ly} {L : List Nat} {ad : Nat → Nat → Nat} {H0 : Heap} (hX : PX E c ly L ad H0) (i : Nat) (hi : i < c.R 10 0) : MuI l yX3_clear cX3_clear 7 .int (rmk 4 0 0 85) [.ref (ad 0 0), .int (nI i)] E H0 (clT c i (c.R 1 i)) (fun H1 => PX E (c.R, clI c i (c.R 1 i), c.B, c.Wr, mk1 c.sh i (c.R 1 i) (fun _ => true)) ly L ad H1) (cA L H0) 0 0 := by
  obtain ⟨hP, hly, hLb, wf⟩ := id hX
  have wfx := wf
  refine ro_of (by decide) (Nat.le_of_ble_eq_true rfl) ?_
  intro p e s m below meth co ls hx hb hr hml hown hlocks hnm hC hU hl
  have hS : va_S (cA L H0) s.heap H0 [] := by rw [hU]; exact va_S.rf
  have hA : ∀ q, q ∈ L → cA L H0 q := fun q h => Or.inl h
  have hN : ∀ q, s.heap.size ≤ q → cA L H0 q := fun q h => Or.inr (by rw [← hU]; exact h)
  have hAb : ∀ q, cA L H0 q → bA E q := fun q h => h.elim (hLb q) (fun z => Nat.le_trans hC.2.2.2.1 (by rw [hU]; exact z))
  have hl : lv_has ls 7 [(0, .ref (ad 0 0)), (1, .int (nI i))] := hl
  have hi2 : i < c.R 11 0 := by have := wf.sw; omega
  have gw := wf.wd hi2
  refine lv_aload_n hx hb dX3_clear_0 rfl (lv_at hl 0 rfl) ?_
  refine lv_iload_n hx hb dX3_clear_1 rfl (lv_at hl 1 rfl) ?_
  refine ro_VR (As := [.int (nI i)]) (h0 := ad 0 0) (rest := []) (v := some (ad 3 i)) hx hb hml hown hC hS hAb (mX3_wallAt_g l hX i (show i < c.R 10 0 by first | assumption | omega | decide | (simp only [decide_eq_false_iff_not, decide_eq_true_eq] at *; omega))) kV_X3_68 ⟨rfl, rfl⟩ ⟨Nat.le_of_ble_eq_true rfl, Nat.le_of_ble_eq_true rfl⟩ (hP.recv hC cX_0 rfl) rfl hl (Nat.le_of_ble_eq_true rfl) ⟨show _ ≤ (0 : Nat) by omega, show _ ≤ (0 : Nat) by omega⟩ dX3_clear_2 ?_
  have hg_1 : i < c.R 11 0 := by have := wf.sw; have := wf.sh'; have := wf.sl; omega
  refine lv_astore_n (lv' := [(2, .ref (ad 3 i)), (0, .ref (ad 0 0)), (1, .int (nI i))]) hx hb dX3_clear_5 rfl hl (by decide) rfl (fun ls hl => ?_)
  refine lv_iconstN hx hb 0 dX3_clear_6 (by decide) ?_
  refine lv_istore_n (lv' := [(3, .int (nI 0)), (2, .ref (ad 3 i)), (0, .ref (ad 0 0)), (1, .int (nI i))]) hx hb dX3_clear_7 rfl hl (by decide) rfl (fun ls hl => ?_)
  refine lv_iconstN hx hb 0 dX3_clear_8 (by decide) ?_
  refine lv_istore (lv' := [(4, .int (nI 0)), (3, .int (nI 0)), (2, .ref (ad 3 i)), (0, .ref (ad 0 0)), (1, .int (nI i))]) hx hb dX3_clear_9 hl (by decide) rfl (fun ls hl => ?_)
  have lp11 : ∀ fu : Nat, ∀ (k : Nat) (a : Int32), k ≤ c.R 1 i → a = clT c i k → c.R 1 i - k < fu → ∀ (H : Heap) (locs : List Loc), PX E (c.R, clI c i k, c.B, c.Wr, c.sh) ly L ad H → va_S (cA L H0) s.heap H locs → ∀ ls : Array Slot, lv_has ls 7 [(0, .ref (ad 0 0)), (2, .ref (ad 3 i)), (3, .int a), (4, .int (nI k))] → W p l e (rmk 4 0 0 85) s m ([.ref (ad 0 0), .int (nI i)] : List Value).toArray below meth co H locs 0 0 (MQ below (QiM (clT c i (c.R 1 i)) (fun H1 => PX E (c.R, clI c i (c.R 1 i), c.B, c.Wr, mk1 c.sh i (c.R 1 i) (fun _ => true)) ly L ad H1) (cA L H0)) ([.ref (ad 0 0), .int (nI i)] : List Value).toArray s 0 0 (cA L H0)) (F0 m 11 ls []) := by
    intro fu
    induction fu with
    | zero => intro k a hk ha hfu; exact absurd hfu (Nat.not_lt_zero _)
    | succ fu ih11 =>
      intro k a hk ha hfu H locs hX hS ls hl
      obtain ⟨hP, hly, hLb, wfx⟩ := id hX
      refine lv_iload hx hb dX3_clear_11 (lv_at hl 3 rfl) ?_
      refine lv_aload_n hx hb dX3_clear_13 rfl (lv_at hl 1 rfl) ?_
      refine pi_get hx hb hC hown hP fL_X3_154 3 i (cX_3 hg_1) (v := .int (nI (c.R 1 i))) rfl dX3_clear_14 ?_
      have g_2 : 4 ≤ c.R 1 i ∧ c.R 1 i ≤ 16 := wfx.wd hg_1
      refine lv_icmpN_ge (tgt := 77) hx hb dX3_clear_17 (by decide) (by omega) (by omega) (fun c_17 => ?_) (fun c_17 => ?_)
      · skip
        refine lv_aload_n hx hb dX3_clear_77 rfl (lv_at hl 1 rfl) ?_
        refine mu_VV (As := []) (h0 := ad 3 i) (rest := []) hx hb hml hown hC hS hAb (mX2_bareAll l hX i hg_1) (fun q h => h.elim (hA q) (fun z => hN q (Nat.le_trans hS.1 z))) kV_X3_179 ⟨rfl, rfl⟩ ⟨Nat.le_of_ble_eq_true rfl, Nat.le_of_ble_eq_true rfl⟩ (hP.recv hC (cX_3 hg_1) rfl) rfl hl (Nat.le_of_ble_eq_true rfl) ⟨show 0 + 0 ≤ (0 : Nat) by omega, show 0 + 0 ≤ (0 : Nat) by omega⟩ dX3_clear_78 (fun H locs hB hS9 hz hk => ?_)
        have hS := hS9
        have hX : PX E (c.R, clI c i k, c.B, c.Wr, mk1 c.sh i (c.R 1 i) (fun _ => true)) ly L ad H := hB
        obtain ⟨hP, hly, hLb, wfx⟩ := id hX
        refine lv_iload_n hx hb dX3_clear_81 rfl (lv_at hl 2 rfl) ?_
        exact mu_iret (x := a) hx hb hr hlocks hS (by have z : k = c.R 1 i := (by omega); have e1 : clI c i k = clI c i (c.R 1 i) := (by rw [z]); show PX _ (_, clI c i (c.R 1 i), _, _, _) _ _ _ _; rw [← e1]; exact hX) (by rw [ha, show k = c.R 1 i by omega]) dX3_clear_82
      · skip
        refine lv_aload_n hx hb dX3_clear_20 rfl (lv_at hl 1 rfl) ?_
        refine pi_get hx hb hC hown hP fL_X3_161 3 i (cX_3 hg_1) (v := .ref (ad 4 i)) rfl dX3_clear_21 ?_
        have g_3 : 4 ≤ c.R 1 i ∧ c.R 1 i ≤ 16 := wfx.wd hg_1
        refine lv_iload hx hb dX3_clear_24 (lv_at hl 3 rfl) ?_
        refine pi_rald (n := c.R 1 i) hx hb hC hP 4 i 1 rfl (cX_4 hg_1) (j := k) (by first | assumption | omega) (by omega) dX3_clear_26 (fun ed_26 => ?_) (fun y26 ed_26 => ?_)
        · skip
          have d_26 : c.sh i k = none := sh_none ed_26
          refine lv_astoreN (lv' := [(5, .null), (0, .ref (ad 0 0)), (2, .ref (ad 3 i)), (3, .int a), (4, .int (nI k))]) hx hb dX3_clear_27 hl (by decide) rfl (fun ls hl => ?_)
          refine lv_aloadN hx hb dX3_clear_29 (lv_at hl 0 rfl) ?_
          refine lv_ifnullN (tgt := 71) hx hb dX3_clear_31 (by decide) ?_
          refine lv_iincN (v := 1) (lv' := [(4, .int (nI (k + 1))), (5, .null), (0, .ref (ad 0 0)), (2, .ref (ad 3 i)), (3, .int a)]) hx hb dX3_clear_71 hl (k := 4) rfl (by decide) (by decide) rfl (fun ls hl => ?_)
          refine lv_goto (tgt := 11) hx hb dX3_clear_74 (by decide) ?_
          have eI : clI c i k = clI c i (k + 1) := by first | exact clI_n d_26 | exact clI_f d_26 c_39 | exact clI_t d_26 c_39
          have hX : PX E (c.R, clI c i (k + 1), c.B, c.Wr, c.sh) ly L ad H := by rw [← eI]; exact hX
          exact ih11 (k + 1) a (by first | rfl | assumption | omega | (simp [c_17, d_26]; done) | (simp_all [c_17, d_26]; done)) (by rw [ha]; first | exact clT_n d_26 | exact clT_f d_26 c_39 | exact clT_t d_26 c_39) (by omega) _ _ hX hS _ (lv_sub hl [2, 3, 4, 0] rfl)
        · skip
          obtain ⟨j_26, d_26, rfl⟩ := sh_some ed_26
          have d_26 : c.sh i k = some j_26 := d_26
          have hj_26 : j_26 < c.R 11 2 := wfx.sj hg_1 (show k < c.R 1 i by first | assumption | omega) d_26
          refine lv_astore (lv' := [(5, .ref (ad 7 j_26)), (0, .ref (ad 0 0)), (2, .ref (ad 3 i)), (3, .int a), (4, .int (nI k))]) hx hb dX3_clear_27 hl (by decide) rfl (fun ls hl => ?_)
          refine lv_aload hx hb dX3_clear_29 (lv_at hl 0 rfl) ?_
          refine lv_ifnull hx hb dX3_clear_31 ?_
          refine lv_aload hx hb dX3_clear_34 (lv_at hl 0 rfl) ?_
          refine ro_V (As := []) (h0 := ad 7 j_26) (rest := []) (v := bI (hrS c j_26)) hx hb hml hown hC hS hAb (mX1_hasRights l hX j_26 hj_26) kV_X3_165 ⟨rfl, rfl⟩ ⟨Nat.le_of_ble_eq_true rfl, Nat.le_of_ble_eq_true rfl⟩ (hP.recv hC (cX_7 hj_26) rfl) rfl hl (Nat.le_of_ble_eq_true rfl) ⟨show _ ≤ (0 : Nat) by omega, show _ ≤ (0 : Nat) by omega⟩ dX3_clear_36 ?_
          refine lv_bif_eq (tgt := 71) hx hb dX3_clear_39 (by decide) (fun c_39 => ?_) (fun c_39 => ?_)
          · skip
            refine lv_iincN (v := 1) (lv' := [(4, .int (nI (k + 1))), (5, .ref (ad 7 j_26)), (0, .ref (ad 0 0)), (2, .ref (ad 3 i)), (3, .int a)]) hx hb dX3_clear_71 hl (k := 4) rfl (by decide) (by decide) rfl (fun ls hl => ?_)
            refine lv_goto (tgt := 11) hx hb dX3_clear_74 (by decide) ?_
            have eI : clI c i k = clI c i (k + 1) := by first | exact clI_n d_26 | exact clI_f d_26 c_39 | exact clI_t d_26 c_39
            have hX : PX E (c.R, clI c i (k + 1), c.B, c.Wr, c.sh) ly L ad H := by rw [← eI]; exact hX
            exact ih11 (k + 1) a (by first | rfl | assumption | omega | (simp [c_17, d_26, c_39]; done) | (simp_all [c_17, d_26, c_39]; done)) (by rw [ha]; first | exact clT_n d_26 | exact clT_f d_26 c_39 | exact clT_t d_26 c_39) (by omega) _ _ hX hS _ (lv_sub hl [2, 3, 4, 0] rfl)
          · skip
            refine lv_iconstN hx hb 5 dX3_clear_42 (by decide) ?_
            refine lv_aload hx hb dX3_clear_43 (lv_at hl 0 rfl) ?_
            refine ro_V (As := []) (h0 := ad 7 j_26) (rest := [.int (nI 5)]) (v := wtf (c.R 9 j_26)) hx hb hml hown hC hS hAb (mX1_weight l hX j_26 hj_26) kV_X3_169 ⟨rfl, rfl⟩ ⟨Nat.le_of_ble_eq_true rfl, Nat.le_of_ble_eq_true rfl⟩ (hP.recv hC (cX_7 hj_26) rfl) rfl hl (Nat.le_of_ble_eq_true rfl) ⟨show _ ≤ (0 : Nat) by omega, show _ ≤ (0 : Nat) by omega⟩ dX3_clear_45 ?_
            refine lv_imul hx hb dX3_clear_48 ?_
            refine lv_istore (lv' := [(6, .int ((nI 5) * (wtf (c.R 9 j_26)))), (5, .ref (ad 7 j_26)), (0, .ref (ad 0 0)), (2, .ref (ad 3 i)), (3, .int a), (4, .int (nI k))]) hx hb dX3_clear_49 hl (by decide) rfl (fun ls hl => ?_)
            refine lv_aload hx hb dX3_clear_51 (lv_at hl 1 rfl) ?_
            refine pi_get hx hb hC hown hP fL_X3_172 7 j_26 (cX_7 hj_26) (v := .ref (ad 5 (c.R 5 j_26))) rfl dX3_clear_53 ?_
            have g_4 : c.R 5 j_26 < c.R 11 1 := wfx.lh hj_26
            refine lv_dup hx hb dX3_clear_56 rfl ?_
            refine pi_get hx hb hC hown hP fL_X3_176 5 (c.R 5 j_26) (cX_5 g_4) (v := .int ((clI c i k) 14 (c.R 5 j_26))) rfl dX3_clear_57 ?_
            refine lv_iload hx hb dX3_clear_60 (lv_at hl 0 rfl) ?_
            refine lv_iadd hx hb dX3_clear_62 ?_
            refine pwX_owed (R := c.R) (I := clI c i k) (B := c.B) (Wr := c.Wr) (S := c.sh) hx hb hC hown hX hS hA fP_X3_176 (c.R 5 j_26) g_4 (v := ((clI c i k) 14 (c.R 5 j_26)) + ((nI 5) * (wtf (c.R 9 j_26)))) (WF.uI wfx (by decide)) dX3_clear_63 (fun H locs hX hS => ?_)
            obtain ⟨hP, hly, hLb, wfx⟩ := id hX
            refine lv_iload_n hx hb dX3_clear_66 rfl (lv_at hl 4 rfl) ?_
            refine lv_iload hx hb dX3_clear_67 (lv_at hl 0 rfl) ?_
            refine lv_iadd hx hb dX3_clear_69 ?_
            refine lv_istore_n (lv' := [(3, .int (a + ((nI 5) * (wtf (c.R 9 j_26))))), (6, .int ((nI 5) * (wtf (c.R 9 j_26)))), (5, .ref (ad 7 j_26)), (0, .ref (ad 0 0)), (2, .ref (ad 3 i)), (4, .int (nI k))]) hx hb dX3_clear_70 rfl hl (by decide) rfl (fun ls hl => ?_)
            refine lv_iincN (v := 1) (lv' := [(4, .int (nI (k + 1))), (3, .int (a + ((nI 5) * (wtf (c.R 9 j_26))))), (6, .int ((nI 5) * (wtf (c.R 9 j_26)))), (5, .ref (ad 7 j_26)), (0, .ref (ad 0 0)), (2, .ref (ad 3 i))]) hx hb dX3_clear_71 hl (k := 5) rfl (by decide) (by decide) rfl (fun ls hl => ?_)
            refine lv_goto (tgt := 11) hx hb dX3_clear_74 (by decide) ?_
            have eI : up2 (clI c i k) 14 (c.R 5 j_26) (((clI c i k) 14 (c.R 5 j_26)) + ((nI 5) * (wtf (c.R 9 j_26)))) = clI c i (k + 1) := by first | exact clI_n d_26 | exact clI_f d_26 c_39 | exact clI_t d_26 c_39
            have hX : PX E (c.R, clI c i (k + 1), c.B, c.Wr, c.sh) ly L ad H := by rw [← eI]; exact hX
            exact ih11 (k + 1) (a + ((nI 5) * (wtf (c.R 9 j_26)))) (by first | rfl | assumption | omega | (simp [c_17, d_26, c_39]; done) | (simp_all [c_17, d_26, c_39]; done)) (by rw [ha]; first | exact clT_n d_26 | exact clT_f d_26 c_39 | exact clT_t d_26 c_39) (by omega) _ _ hX hS _ (lv_sub hl [4, 5, 1, 0] rfl)
  have eI : c.I = clI c i 0 := rfl
  have hX : PX E (c.R, clI c i 0, c.B, c.Wr, c.sh) ly L ad H0 := by rw [← eI]; exact hX
  exact lp11 (c.R 1 i - 0 + 1) 0 (nI 0) (by first | rfl | assumption | omega | (simp []; done) | (simp_all []; done)) (rfl) (Nat.lt_succ_self _) _ _ hX hS _ (lv_sub hl [3, 2, 1, 0] rfl)
set_option maxHeartbeats 4000000 in
set_option maxRecDepth 100000 in
theorem mX0_beCaught (l : Launch) {E : En} {c : Cy} {ly : Ly} {L : List Nat} {ad : Nat → Nat → Nat} {H0 : Heap} (hX : PX E c ly L ad H0) (h kd : Nat) (hh : h < c.R 11 1) : MuV l yX0_beCaught cX0_beCaught 2 (rmk 0 0 0 0) [.ref (ad 5 h), .int (nI kd)] E H0 (fun H1 => PX E (c.R, up2 (up2 (c.I) 11 h (c.I 11 h + nI (20 + 10 * kd))) 13 h (c.I 13 h + nI 1), up2 (c.B) 0 h true, c.Wr, c.sh) ly L ad H1) (cA L H0) 0 0 := by
  obtain ⟨hP, hly, hLb, wf⟩ := id hX
  have wfx := wf
  refine ro_of (by decide) (Nat.le_of_ble_eq_true rfl) ?_
  intro p e s m below meth co ls hx hb hr hml hown hlocks hnm hC hU hl
  have hS : va_S (cA L H0) s.heap H0 [] := by rw [hU]; exact va_S.rf
  have hA : ∀ q, q ∈ L → cA L H0 q := fun q h => Or.inl h
  have hN : ∀ q, s.heap.size ≤ q → cA L H0 q := fun q h => Or.inr (by rw [← hU]; exact h)
  have hAb : ∀ q, cA L H0 q → bA E q := fun q h => h.elim (hLb q) (fun z => Nat.le_trans hC.2.2.2.1 (by rw [hU]; exact z))
  have hl : lv_has ls 2 [(0, .ref (ad 5 h)), (1, .int (nI kd))] := hl
  refine lv_aload_n hx hb dX0_beCaught_0 rfl (lv_at hl 0 rfl) ?_
  refine lv_dup hx hb dX0_beCaught_1 rfl ?_
  refine pi_get hx hb hC hown hP fL_X0_34 5 h (cX_5 hh) (v := .int (c.I 11 h)) rfl dX0_beCaught_2 ?_
  refine lv_bipushN hx hb 20 dX0_beCaught_5 (by decide) ?_
  refine lv_bipushN hx hb 10 dX0_beCaught_7 (by decide) ?_
  refine lv_iload_n hx hb dX0_beCaught_9 rfl (lv_at hl 1 rfl) ?_
  refine lv_imulN hx hb dX0_beCaught_10 ?_
  refine lv_iaddN hx hb dX0_beCaught_11 ?_
  refine lv_iadd hx hb dX0_beCaught_12 ?_
  refine pwX_fines (R := c.R) (I := c.I) (B := c.B) (Wr := c.Wr) (S := c.sh) hx hb hC hown hX hS hA fP_X0_34 h hh (v := (c.I 11 h) + (nI (20 + (10 * kd)))) (WF.uI wfx (by decide)) dX0_beCaught_13 (fun H locs hX hS => ?_)
  obtain ⟨hP, hly, hLb, wfx⟩ := id hX
  refine lv_aload_n hx hb dX0_beCaught_16 rfl (lv_at hl 0 rfl) ?_
  refine lv_iconstN hx hb 1 dX0_beCaught_17 (by decide) ?_
  refine pwX_known (R := c.R) (I := up2 c.I 11 h ((c.I 11 h) + (nI (20 + (10 * kd))))) (B := c.B) (Wr := c.Wr) (S := c.sh) hx hb hC hown hX hS hA fP_X0_37 h hh (v := true) (WF.uB wfx _) dX0_beCaught_18 (fun H locs hX hS => ?_)
  obtain ⟨hP, hly, hLb, wfx⟩ := id hX
  refine lv_aload_n hx hb dX0_beCaught_21 rfl (lv_at hl 0 rfl) ?_
  refine lv_dup hx hb dX0_beCaught_22 rfl ?_
  refine pi_get hx hb hC hown hP fL_X0_41 5 h (cX_5 hh) (v := .int (c.I 13 h)) rfl dX0_beCaught_23 ?_
  refine lv_iconstN hx hb 1 dX0_beCaught_26 (by decide) ?_
  refine lv_iadd hx hb dX0_beCaught_27 ?_
  refine pwX_timesCaught (R := c.R) (I := up2 c.I 11 h ((c.I 11 h) + (nI (20 + (10 * kd))))) (B := up2 c.B 0 h true) (Wr := c.Wr) (S := c.sh) hx hb hC hown hX hS hA fP_X0_41 h hh (v := (c.I 13 h) + (nI 1)) (WF.uI wfx (by decide)) dX0_beCaught_28 (fun H locs hX hS => ?_)
  obtain ⟨hP, hly, hLb, wfx⟩ := id hX
  exact mu_vret hx hb hr hlocks hS (hX) dX0_beCaught_31
set_option maxHeartbeats 4000000 in
set_option maxRecDepth 100000 in
theorem mX3_doWrongs (l : Launch) {E : En} {c : Cy} {ly : Ly} {L : List Nat} {ad : Nat → Nat → Nat} {H0 : Heap} (hX : PX E c ly L ad H0) (h i f w kd : Nat) (hh : h < c.R 11 1) (hi : i < c.R 11 0) (hw : f + w ≤ c.R 1 i) (hkd : kd < 4) : MuI l yX3_doWrongs cX3_doWrongs 9 .int (rmk 4 0 0 93) [.ref (ad 0 0), .ref (ad 5 h), .ref (ad 3 i), .int (nI f), .int (nI w), .int (nI kd)] E H0 (nI (cwrS c h i f w kd)) (fun H1 => PX E (c.R, c.I, c.B, dwW c h i f kd w, c.sh) ly L ad H1) (cA L H0) 0 0 := by
  obtain ⟨hP, hly, hLb, wf⟩ := id hX
  have wfx := wf
  refine ro_of (by decide) (Nat.le_of_ble_eq_true rfl) ?_
  intro p e s m below meth co ls hx hb hr hml hown hlocks hnm hC hU hl
  have hS : va_S (cA L H0) s.heap H0 [] := by rw [hU]; exact va_S.rf
  have hA : ∀ q, q ∈ L → cA L H0 q := fun q h => Or.inl h
  have hN : ∀ q, s.heap.size ≤ q → cA L H0 q := fun q h => Or.inr (by rw [← hU]; exact h)
  have hAb : ∀ q, cA L H0 q → bA E q := fun q h => h.elim (hLb q) (fun z => Nat.le_trans hC.2.2.2.1 (by rw [hU]; exact z))
  have hl : lv_has ls 9 [(0, .ref (ad 0 0)), (1, .ref (ad 5 h)), (2, .ref (ad 3 i)), (3, .int (nI f)), (4, .int (nI w)), (5, .int (nI kd))] := hl
  have gw := wf.wd hi
  have gh := wf.nh
  refine lv_iconstN hx hb 0 dX3_doWrongs_0 (by decide) ?_
  refine lv_istore (lv' := [(6, .int (nI 0)), (0, .ref (ad 0 0)), (1, .ref (ad 5 h)), (2, .ref (ad 3 i)), (3, .int (nI f)), (4, .int (nI w)), (5, .int (nI kd))]) hx hb dX3_doWrongs_1 hl (by decide) rfl (fun ls hl => ?_)
  refine lv_iload_n hx hb dX3_doWrongs_3 rfl (lv_at hl 4 rfl) ?_
  refine lv_istore (lv' := [(7, .int (nI f)), (6, .int (nI 0)), (0, .ref (ad 0 0)), (1, .ref (ad 5 h)), (2, .ref (ad 3 i)), (3, .int (nI f)), (4, .int (nI w)), (5, .int (nI kd))]) hx hb dX3_doWrongs_4 hl (by decide) rfl (fun ls hl => ?_)
  have lp6 : ∀ fu : Nat, ∀ (k a : Nat), f ≤ k → k ≤ f + w → a = cntN (fun q => (waS c h i f (f + q) kd).isSome) (k - f) → f + w - k < fu → ∀ (H : Heap) (locs : List Loc), PX E (c.R, c.I, c.B, dwW c h i f kd (k - f), c.sh) ly L ad H → va_S (cA L H0) s.heap H locs → ∀ ls : Array Slot, lv_has ls 9 [(0, .ref (ad 0 0)), (1, .ref (ad 5 h)), (2, .ref (ad 3 i)), (3, .int (nI f)), (4, .int (nI w)), (5, .int (nI kd)), (6, .int (nI a)), (7, .int (nI k))] → W p l e (rmk 4 0 0 93) s m ([.ref (ad 0 0), .ref (ad 5 h), .ref (ad 3 i), .int (nI f), .int (nI w), .int (nI kd)] : List Value).toArray below meth co H locs 0 0 (MQ below (QiM (nI (cwrS c h i f w kd)) (fun H1 => PX E (c.R, c.I, c.B, dwW c h i f kd w, c.sh) ly L ad H1) (cA L H0)) ([.ref (ad 0 0), .ref (ad 5 h), .ref (ad 3 i), .int (nI f), .int (nI w), .int (nI kd)] : List Value).toArray s 0 0 (cA L H0)) (F0 m 6 ls []) := by
    intro fu
    induction fu with
    | zero => intro k a hk hk2 ha hfu; exact absurd hfu (Nat.not_lt_zero _)
    | succ fu ih6 =>
      intro k a hk hk2 ha hfu H locs hX hS ls hl
      obtain ⟨hP, hly, hLb, wfx⟩ := id hX
      refine lv_iload hx hb dX3_doWrongs_6 (lv_at hl 7 rfl) ?_
      refine lv_iload_n hx hb dX3_doWrongs_8 rfl (lv_at hl 3 rfl) ?_
      refine lv_iload hx hb dX3_doWrongs_9 (lv_at hl 4 rfl) ?_
      refine lv_iaddN hx hb dX3_doWrongs_11 ?_
      refine lv_icmpN_ge (tgt := 56) hx hb dX3_doWrongs_12 (by decide) (by omega) (by omega) (fun c_12 => ?_) (fun c_12 => ?_)
      · skip
        refine lv_iload hx hb dX3_doWrongs_56 (lv_at hl 6 rfl) ?_
        exact mu_iret (x := nI a) hx hb hr hlocks hS (by have z : k - f = w := (by omega); show PX _ _ _ _ _ _; rw [← z]; exact hX) (by rw [ha, show k - f = w by omega]; rfl) dX3_doWrongs_58
      · skip
        refine lv_aload_n hx hb dX3_doWrongs_15 rfl (lv_at hl 0 rfl) ?_
        refine lv_aload_n hx hb dX3_doWrongs_16 rfl (lv_at hl 1 rfl) ?_
        refine lv_aload_n hx hb dX3_doWrongs_17 rfl (lv_at hl 2 rfl) ?_
        refine lv_iload_n hx hb dX3_doWrongs_18 rfl (lv_at hl 3 rfl) ?_
        refine lv_iload hx hb dX3_doWrongs_19 (lv_at hl 7 rfl) ?_
        refine lv_iload hx hb dX3_doWrongs_21 (lv_at hl 5 rfl) ?_
        refine ro_VR (As := [.ref (ad 5 h), .ref (ad 3 i), .int (nI f), .int (nI k), .int (nI kd)]) (h0 := ad 0 0) (rest := []) (v := (waS c h i f k kd).map (ad 5)) hx hb hml hown hC hS hAb (mX3_wrongedAt l hX h i f k kd hh hi (show k < c.R 1 i by first | assumption | omega | decide | (simp only [decide_eq_false_iff_not, decide_eq_true_eq] at *; omega)) (show f ≤ k by first | assumption | omega | decide | (simp only [decide_eq_false_iff_not, decide_eq_true_eq] at *; omega)) (show kd < 4 by first | assumption | omega | decide | (simp only [decide_eq_false_iff_not, decide_eq_true_eq] at *; omega))) kV_X3_392 ⟨rfl, rfl⟩ ⟨Nat.le_of_ble_eq_true rfl, Nat.le_of_ble_eq_true rfl⟩ (hP.recv hC cX_0 rfl) rfl hl (Nat.le_of_ble_eq_true rfl) ⟨show _ ≤ (0 : Nat) by omega, show _ ≤ (0 : Nat) by omega⟩ dX3_doWrongs_23 ?_
        cases d_23 : waS c h i f k kd with
        | none =>
          refine lv_astoreN (lv' := [(8, .null), (0, .ref (ad 0 0)), (1, .ref (ad 5 h)), (2, .ref (ad 3 i)), (3, .int (nI f)), (4, .int (nI w)), (5, .int (nI kd)), (6, .int (nI a)), (7, .int (nI k))]) hx hb dX3_doWrongs_26 hl (by decide) rfl (fun ls hl => ?_)
          refine lv_aloadN hx hb dX3_doWrongs_28 (lv_at hl 0 rfl) ?_
          refine lv_ifnullN (tgt := 50) hx hb dX3_doWrongs_30 (by decide) ?_
          refine lv_iincN (v := 1) (lv' := [(7, .int (nI (k + 1))), (8, .null), (0, .ref (ad 0 0)), (1, .ref (ad 5 h)), (2, .ref (ad 3 i)), (3, .int (nI f)), (4, .int (nI w)), (5, .int (nI kd)), (6, .int (nI a))]) hx hb dX3_doWrongs_50 hl (k := 8) rfl (by decide) (by decide) rfl (fun ls hl => ?_)
          refine lv_goto (tgt := 6) hx hb dX3_doWrongs_53 (by decide) ?_
          have eWr : dwW c h i f kd (k - f) = dwW c h i f kd ((k + 1) - f) := by first | exact dwW_n hk d_23 | exact dwW_s hk d_23
          have hX : PX E (c.R, c.I, c.B, dwW c h i f kd ((k + 1) - f), c.sh) ly L ad H := by rw [← eWr]; exact hX
          exact ih6 (k + 1) a (by first | rfl | assumption | omega | (simp [c_12, d_23]; done) | (simp_all [c_12, d_23]; done)) (by first | rfl | assumption | omega | (simp [c_12, d_23]; done) | (simp_all [c_12, d_23]; done)) (by first | exact ha.trans (cntR_f (P := fun z => (waS c h i f z kd).isSome) hk (by simp [d_23])).symm | exact (congrArg (· + 1) ha).trans (cntR_t (P := fun z => (waS c h i f z kd).isSome) hk (by simp [d_23])).symm) (by omega) _ _ hX hS _ (lv_sub hl [2, 3, 4, 5, 6, 7, 8, 0] rfl)
        | some j_23 =>
          have hj_23 : j_23 < c.R 11 1 := waS_lt wf (by first | assumption | omega) (by first | assumption | omega) d_23
          refine lv_astore (lv' := [(8, .ref (ad 5 j_23)), (0, .ref (ad 0 0)), (1, .ref (ad 5 h)), (2, .ref (ad 3 i)), (3, .int (nI f)), (4, .int (nI w)), (5, .int (nI kd)), (6, .int (nI a)), (7, .int (nI k))]) hx hb dX3_doWrongs_26 hl (by decide) rfl (fun ls hl => ?_)
          refine lv_aload hx hb dX3_doWrongs_28 (lv_at hl 0 rfl) ?_
          refine lv_ifnull hx hb dX3_doWrongs_30 ?_
          refine lv_aload_n hx hb dX3_doWrongs_33 rfl (lv_at hl 2 rfl) ?_
          refine pi_get hx hb hC hown hP fL_X3_295 5 h (cX_5 hh) (v := .ref (ad 6 h)) rfl dX3_doWrongs_34 ?_
          refine lv_aload hx hb dX3_doWrongs_37 (lv_at hl 0 rfl) ?_
          refine pi_get hx hb hC hown hP fL_X3_270 5 j_23 (cX_5 hj_23) (v := .int (nI j_23)) rfl dX3_doWrongs_39 ?_
          have g_1 : c.R 11 1 ≤ 8 := wfx.nh
          refine lv_dup2_11 hx hb dX3_doWrongs_42 rfl rfl ?_
          refine pi_iald hx hb hC hP 6 h (cX_6 hh) (j := j_23) (by omega) (by omega) dX3_doWrongs_43 ?_
          refine lv_iconstN hx hb 1 dX3_doWrongs_44 (by decide) ?_
          refine lv_iadd hx hb dX3_doWrongs_45 ?_
          refine pwX_wrongs (R := c.R) (I := c.I) (B := c.B) (Wr := dwW c h i f kd (k - f)) (S := c.sh) hx hb hC hX hS hA h hh (j := j_23) (by omega) (x := ((dwW c h i f kd (k - f)) h j_23) + (nI 1)) (WF.uW wfx (fun _ => by first | assumption | omega)) dX3_doWrongs_46 (fun H locs hX hS => ?_)
          obtain ⟨hP, hly, hLb, wfx⟩ := id hX
          refine lv_iincN (v := 1) (lv' := [(6, .int (nI (a + 1))), (8, .ref (ad 5 j_23)), (0, .ref (ad 0 0)), (1, .ref (ad 5 h)), (2, .ref (ad 3 i)), (3, .int (nI f)), (4, .int (nI w)), (5, .int (nI kd)), (7, .int (nI k))]) hx hb dX3_doWrongs_47 hl (k := 7) rfl (by decide) (by decide) rfl (fun ls hl => ?_)
          refine lv_iincN (v := 1) (lv' := [(7, .int (nI (k + 1))), (6, .int (nI (a + 1))), (8, .ref (ad 5 j_23)), (0, .ref (ad 0 0)), (1, .ref (ad 5 h)), (2, .ref (ad 3 i)), (3, .int (nI f)), (4, .int (nI w)), (5, .int (nI kd))]) hx hb dX3_doWrongs_50 hl (k := 8) rfl (by decide) (by decide) rfl (fun ls hl => ?_)
          refine lv_goto (tgt := 6) hx hb dX3_doWrongs_53 (by decide) ?_
          have eWr : up2 (dwW c h i f kd (k - f)) h j_23 (((dwW c h i f kd (k - f)) h j_23) + (nI 1)) = dwW c h i f kd ((k + 1) - f) := by first | exact dwW_n hk d_23 | exact dwW_s hk d_23
          have hX : PX E (c.R, c.I, c.B, dwW c h i f kd ((k + 1) - f), c.sh) ly L ad H := by rw [← eWr]; exact hX
          exact ih6 (k + 1) (a + 1) (by first | rfl | assumption | omega | (simp [c_12, d_23]; done) | (simp_all [c_12, d_23]; done)) (by first | rfl | assumption | omega | (simp [c_12, d_23]; done) | (simp_all [c_12, d_23]; done)) (by first | exact ha.trans (cntR_f (P := fun z => (waS c h i f z kd).isSome) hk (by simp [d_23])).symm | exact (congrArg (· + 1) ha).trans (cntR_t (P := fun z => (waS c h i f z kd).isSome) hk (by simp [d_23])).symm) (by omega) _ _ hX hS _ (lv_sub hl [3, 4, 5, 6, 7, 8, 1, 0] rfl)
  have eWr : c.Wr = dwW c h i f kd (f - f) := by rw [Nat.sub_self]; rfl
  have hX : PX E (c.R, c.I, c.B, dwW c h i f kd (f - f), c.sh) ly L ad H0 := by rw [← eWr]; exact hX
  exact lp6 (f + w - f + 1) f 0 (by first | rfl | assumption | omega | (simp []; done) | (simp_all []; done)) (by first | rfl | assumption | omega | (simp []; done) | (simp_all []; done)) (by rw [Nat.sub_self]; rfl) (Nat.lt_succ_self _) _ _ hX hS _ (lv_sub hl [2, 3, 4, 5, 6, 7, 1, 0] rfl)
set_option maxHeartbeats 4000000 in
set_option maxRecDepth 100000 in
theorem mX3_goOneNightOn (l : Launch) {E : En} {c : Cy} {ly : Ly} {L : List Nat} {ad : Nat → Nat → Nat} {H0 : Heap} (hX : PX E c ly L ad H0)  (ht : c.R 0 0 < 400) : MuI l yX3_goOneNightOn cX3_goOneNightOn 4 .int (rmk 3 0 0 64) [.ref (ad 0 0)] E H0 (nI (niN c)) (fun H1 => PX E (rzR c (c.R 10 1), niI c, c.B, c.Wr, bnS c (c.R 10 0)) ly L ad H1) (cA L H0) 0 0 := by
  obtain ⟨hP, hly, hLb, wf⟩ := id hX
  have wfx := wf
  refine ro_of (by decide) (Nat.le_of_ble_eq_true rfl) ?_
  intro p e s m below meth co ls hx hb hr hml hown hlocks hnm hC hU hl
  have hS : va_S (cA L H0) s.heap H0 [] := by rw [hU]; exact va_S.rf
  have hA : ∀ q, q ∈ L → cA L H0 q := fun q h => Or.inl h
  have hN : ∀ q, s.heap.size ≤ q → cA L H0 q := fun q h => Or.inr (by rw [← hU]; exact h)
  have hAb : ∀ q, cA L H0 q → bA E q := fun q h => h.elim (hLb q) (fun z => Nat.le_trans hC.2.2.2.1 (by rw [hU]; exact z))
  have hl : lv_has ls 4 [(0, .ref (ad 0 0))] := hl
  have gw := wf.nw
  have gs := wf.sw
  have gh := wf.nh
  have gz := wf.sh'
  refine lv_aload_n hx hb dX3_goOneNightOn_0 rfl (lv_at hl 0 rfl) ?_
  refine lv_dup hx hb dX3_goOneNightOn_1 rfl ?_
  refine pi_get hx hb hC hown hP fL_X3_22 0 0 cX_0 (v := .int (nI (c.R 0 0))) rfl dX3_goOneNightOn_2 ?_
  have g_1 : c.R 0 0 ≤ 400 := wfx.nt
  refine lv_iconstN hx hb 1 dX3_goOneNightOn_5 (by decide) ?_
  refine lv_iaddN hx hb dX3_goOneNightOn_6 ?_
  refine pwX_tonight (R := c.R) (I := c.I) (B := c.B) (Wr := c.Wr) (S := c.sh) hx hb hC hown hX hS hA fP_X3_22 (v := (c.R 0 0) + 1) (WF.uR0 wfx (by omega)) dX3_goOneNightOn_7 (fun H locs hX hS => ?_)
  obtain ⟨hP, hly, hLb, wfx⟩ := id hX
  refine lv_aload_n hx hb dX3_goOneNightOn_10 rfl (lv_at hl 0 rfl) ?_
  refine lv_dup hx hb dX3_goOneNightOn_11 rfl ?_
  refine pi_get hx hb hC hown hP fL_X3_26 0 0 cX_0 (v := .int (c.I 0 0)) rfl dX3_goOneNightOn_12 ?_
  refine lv_iconstN hx hb 5 dX3_goOneNightOn_15 (by decide) ?_
  refine lv_iadd hx hb dX3_goOneNightOn_16 ?_
  refine pwX_coins (R := up2 c.R 0 0 ((c.R 0 0) + 1)) (I := c.I) (B := c.B) (Wr := c.Wr) (S := c.sh) hx hb hC hown hX hS hA fP_X3_26 (v := (c.I 0 0) + (nI 5)) (WF.uI wfx (by decide)) dX3_goOneNightOn_17 (fun H locs hX hS => ?_)
  obtain ⟨hP, hly, hLb, wfx⟩ := id hX
  refine lv_iconstN hx hb 0 dX3_goOneNightOn_20 (by decide) ?_
  refine lv_istore_n (lv' := [(1, .int (nI 0)), (0, .ref (ad 0 0))]) hx hb dX3_goOneNightOn_21 rfl hl (by decide) rfl (fun ls hl => ?_)
  have lp22 : ∀ fu : Nat, ∀ (k : Nat), k ≤ c.R 10 1 → c.R 10 1 - k < fu → ∀ (H : Heap) (locs : List Loc), PX E (rzR c k, niI c, c.B, c.Wr, c.sh) ly L ad H → va_S (cA L H0) s.heap H locs → ∀ ls : Array Slot, lv_has ls 4 [(0, .ref (ad 0 0)), (1, .int (nI k))] → W p l e (rmk 3 0 0 64) s m ([.ref (ad 0 0)] : List Value).toArray below meth co H locs 0 0 (MQ below (QiM (nI (niN c)) (fun H1 => PX E (rzR c (c.R 10 1), niI c, c.B, c.Wr, bnS c (c.R 10 0)) ly L ad H1) (cA L H0)) ([.ref (ad 0 0)] : List Value).toArray s 0 0 (cA L H0)) (F0 m 22 ls []) := by
    intro fu
    induction fu with
    | zero => intro k hk hfu; exact absurd hfu (Nat.not_lt_zero _)
    | succ fu ih22 =>
      intro k hk hfu H locs hX hS ls hl
      obtain ⟨hP, hly, hLb, wfx⟩ := id hX
      refine lv_iload_n hx hb dX3_goOneNightOn_22 rfl (lv_at hl 1 rfl) ?_
      refine lv_aload_n hx hb dX3_goOneNightOn_23 rfl (lv_at hl 0 rfl) ?_
      refine pi_get hx hb hC hown hP fL_X3_16 0 0 cX_0 (v := .ref (ad 1 1)) rfl dX3_goOneNightOn_24 ?_
      refine ro_V (As := []) (h0 := ad 1 1) (rest := [.int (nI k)]) (v := nI (c.R 10 1)) hx hb hml hown hC hS hAb (mJ_size l hP 1 (cX_1 (by decide))) kV_X3_43 ⟨rfl, rfl⟩ ⟨Nat.le_of_ble_eq_true rfl, Nat.le_of_ble_eq_true rfl⟩ (hP.recv hC (cX_1 (i := 1) (by decide)) rfl) rfl hl (Nat.le_of_ble_eq_true rfl) ⟨show _ ≤ (0 : Nat) by omega, show _ ≤ (0 : Nat) by omega⟩ dX3_goOneNightOn_27 ?_
      have g_2 := wf.sh'
      have g_3 := wf.nh
      refine lv_icmpN_ge (tgt := 54) hx hb dX3_goOneNightOn_30 (by decide) (by omega) (by omega) (fun c_30 => ?_) (fun c_30 => ?_)
      · skip
        refine lv_iconstN hx hb 0 dX3_goOneNightOn_54 (by decide) ?_
        refine lv_istore_n (lv' := [(1, .int (nI 0)), (0, .ref (ad 0 0))]) hx hb dX3_goOneNightOn_55 rfl hl (by decide) rfl (fun ls hl => ?_)
        refine lv_iconstN hx hb 0 dX3_goOneNightOn_56 (by decide) ?_
        refine lv_istore_n (lv' := [(2, .int (nI 0)), (1, .int (nI 0)), (0, .ref (ad 0 0))]) hx hb dX3_goOneNightOn_57 rfl hl (by decide) rfl (fun ls hl => ?_)
        have lp58 : ∀ fu : Nat, ∀ (k a : Nat), k ≤ c.R 10 0 → a = smN (niF c) k → c.R 10 0 - k < fu → ∀ (H : Heap) (locs : List Loc), PX E (rzR c (c.R 10 1), niI c, c.B, c.Wr, bnS c k) ly L ad H → va_S (cA L H0) s.heap H locs → ∀ ls : Array Slot, lv_has ls 4 [(0, .ref (ad 0 0)), (1, .int (nI a)), (2, .int (nI k))] → W p l e (rmk 3 0 0 64) s m ([.ref (ad 0 0)] : List Value).toArray below meth co H locs 0 0 (MQ below (QiM (nI (niN c)) (fun H1 => PX E (rzR c (c.R 10 1), niI c, c.B, c.Wr, bnS c (c.R 10 0)) ly L ad H1) (cA L H0)) ([.ref (ad 0 0)] : List Value).toArray s 0 0 (cA L H0)) (F0 m 58 ls []) := by
          intro fu
          induction fu with
          | zero => intro k a hk ha hfu; exact absurd hfu (Nat.not_lt_zero _)
          | succ fu ih58 =>
            intro k a hk ha hfu H locs hX hS ls hl
            obtain ⟨hP, hly, hLb, wfx⟩ := id hX
            refine lv_iload_n hx hb dX3_goOneNightOn_58 rfl (lv_at hl 2 rfl) ?_
            refine lv_aload_n hx hb dX3_goOneNightOn_59 rfl (lv_at hl 0 rfl) ?_
            refine pi_get hx hb hC hown hP fL_X3_10 0 0 cX_0 (v := .ref (ad 1 0)) rfl dX3_goOneNightOn_60 ?_
            refine ro_V (As := []) (h0 := ad 1 0) (rest := [.int (nI k)]) (v := nI (c.R 10 0)) hx hb hml hown hC hS hAb (mJ_size l hP 0 (cX_1 (by decide))) kV_X3_43 ⟨rfl, rfl⟩ ⟨Nat.le_of_ble_eq_true rfl, Nat.le_of_ble_eq_true rfl⟩ (hP.recv hC (cX_1 (i := 0) (by decide)) rfl) rfl hl (Nat.le_of_ble_eq_true rfl) ⟨show _ ≤ (0 : Nat) by omega, show _ ≤ (0 : Nat) by omega⟩ dX3_goOneNightOn_63 ?_
            have g_4 := wf.sw
            have g_5 := wf.nw
            refine lv_icmpN_ge (tgt := 109) hx hb dX3_goOneNightOn_66 (by decide) (by omega) (by omega) (fun c_66 => ?_) (fun c_66 => ?_)
            · skip
              refine lv_iload_n hx hb dX3_goOneNightOn_109 rfl (lv_at hl 1 rfl) ?_
              exact mu_iret (x := nI a) hx hb hr hlocks hS (by have z : k = c.R 10 0 := (by omega); show PX _ _ _ _ _ _; rw [← z]; exact hX) (by rw [ha, show k = c.R 10 0 by omega]; rfl) dX3_goOneNightOn_110
            · skip
              refine lv_aload_n hx hb dX3_goOneNightOn_69 rfl (lv_at hl 0 rfl) ?_
              refine pi_get hx hb hC hown hP fL_X3_10 0 0 cX_0 (v := .ref (ad 1 0)) rfl dX3_goOneNightOn_70 ?_
              refine lv_iload_n hx hb dX3_goOneNightOn_73 rfl (lv_at hl 2 rfl) ?_
              refine ro_VR (As := [.int (nI k)]) (h0 := ad 1 0) (rest := []) (v := some (ad 3 k)) hx hb hml hown hC hS hAb (mJ_get l hP 0 (cX_1 (by decide)) (fun h9 => cX_2 (by decide) h9) (hly 0 (by decide)) k (show k < c.R 10 0 by first | assumption | omega | decide | (simp only [decide_eq_false_iff_not, decide_eq_true_eq] at *; omega))) kV_X3_327 ⟨rfl, rfl⟩ ⟨Nat.le_of_ble_eq_true rfl, Nat.le_of_ble_eq_true rfl⟩ (hP.recv hC (cX_1 (i := 0) (by decide)) rfl) rfl hl (Nat.le_of_ble_eq_true rfl) ⟨show _ ≤ (0 : Nat) by omega, show _ ≤ (0 : Nat) by omega⟩ dX3_goOneNightOn_74 ?_
              have hg_6 : k < c.R 11 0 := by have := wf.sw; omega
              refine pi_cast (nm := "") hx hb hC hown hP 3 k (cX_3 hg_6) rfl wCl_X3_52 dX3_goOneNightOn_77 ?_
              refine lv_astore_n (lv' := [(3, .ref (ad 3 k)), (0, .ref (ad 0 0)), (1, .int (nI a)), (2, .int (nI k))]) hx hb dX3_goOneNightOn_80 rfl hl (by decide) rfl (fun ls hl => ?_)
              refine lv_aload_n hx hb dX3_goOneNightOn_81 rfl (lv_at hl 0 rfl) ?_
              refine lv_aload_n hx hb dX3_goOneNightOn_82 rfl (lv_at hl 1 rfl) ?_
              refine pi_get hx hb hC hown hP fL_X3_22 0 0 cX_0 (v := .int (nI (c.R 0 0 + 1))) rfl dX3_goOneNightOn_83 ?_
              have g_7 : c.R 0 0 + 1 ≤ 400 := wfx.nt
              refine ro_V (As := [.int (nI (c.R 0 0 + 1))]) (h0 := ad 3 k) (rest := []) (v := bI (clnS c k (c.R 0 0 + 1))) hx hb hml hown hC hS hAb (mX2_isCleanedIn l hX k (c.R 0 0 + 1) hg_6 (show (c.R 0 0 + 1) < 1000 by first | assumption | omega | decide | (simp only [decide_eq_false_iff_not, decide_eq_true_eq] at *; omega))) kV_X3_417 ⟨rfl, rfl⟩ ⟨Nat.le_of_ble_eq_true rfl, Nat.le_of_ble_eq_true rfl⟩ (hP.recv hC (cX_3 hg_6) rfl) rfl hl (Nat.le_of_ble_eq_true rfl) ⟨show _ ≤ (0 : Nat) by omega, show _ ≤ (0 : Nat) by omega⟩ dX3_goOneNightOn_86 ?_
              refine lv_bif_eq (tgt := 103) hx hb dX3_goOneNightOn_89 (by decide) (fun c_89 => ?_) (fun c_89 => ?_)
              · skip
                refine lv_iincN (v := 1) (lv' := [(2, .int (nI (k + 1))), (3, .ref (ad 3 k)), (0, .ref (ad 0 0)), (1, .int (nI a))]) hx hb dX3_goOneNightOn_103 hl (k := 3) rfl (by decide) (by decide) rfl (fun ls hl => ?_)
                refine lv_goto (tgt := 58) hx hb dX3_goOneNightOn_106 (by decide) ?_
                have esh : bnS c k = bnS c (k + 1) := by first | exact bnS_t c_89 | exact bnS_f c_89
                have hX : PX E (rzR c (c.R 10 1), niI c, c.B, c.Wr, bnS c (k + 1)) ly L ad H := by rw [← esh]; exact hX
                exact ih58 (k + 1) a (by first | rfl | assumption | omega | (simp [c_30, c_66, c_89]; done) | (simp_all [c_30, c_66, c_89]; done)) (by first | (rw [ha, pnt_c (fun q => bnS_at)]; exact niF_t c_89) | (rw [ha]; exact niF_f c_89)) (by omega) _ _ hX hS _ (lv_sub hl [2, 3, 0] rfl)
              · skip
                refine lv_iload_n hx hb dX3_goOneNightOn_92 rfl (lv_at hl 2 rfl) ?_
                refine lv_aload_n hx hb dX3_goOneNightOn_93 rfl (lv_at hl 0 rfl) ?_
                refine ro_V (As := []) (h0 := ad 3 k) (rest := [.int (nI a)]) (v := nI (cntN (pntB (rzR c (c.R 10 1), niI c, c.B, c.Wr, bnS c k) k) (c.R 1 k))) hx hb hml hown hC hS hAb (mX2_paintedCells l hX k hg_6) kV_X3_224 ⟨rfl, rfl⟩ ⟨Nat.le_of_ble_eq_true rfl, Nat.le_of_ble_eq_true rfl⟩ (hP.recv hC (cX_3 hg_6) rfl) rfl hl (Nat.le_of_ble_eq_true rfl) ⟨show _ ≤ (0 : Nat) by omega, show _ ≤ (0 : Nat) by omega⟩ dX3_goOneNightOn_94 ?_
                refine lv_iaddN hx hb dX3_goOneNightOn_97 ?_
                refine lv_istore_n (lv' := [(1, .int (nI (a + (cntN (pntB (rzR c (c.R 10 1), niI c, c.B, c.Wr, bnS c k) k) (c.R 1 k))))), (3, .ref (ad 3 k)), (0, .ref (ad 0 0)), (2, .int (nI k))]) hx hb dX3_goOneNightOn_98 rfl hl (by decide) rfl (fun ls hl => ?_)
                refine lv_aload_n hx hb dX3_goOneNightOn_99 rfl (lv_at hl 1 rfl) ?_
                refine mu_VV (As := []) (h0 := ad 3 k) (rest := []) hx hb hml hown hC hS hAb (mX2_bareAll l hX k hg_6) (fun q h => h.elim (hA q) (fun z => hN q (Nat.le_trans hS.1 z))) kV_X3_179 ⟨rfl, rfl⟩ ⟨Nat.le_of_ble_eq_true rfl, Nat.le_of_ble_eq_true rfl⟩ (hP.recv hC (cX_3 hg_6) rfl) rfl hl (Nat.le_of_ble_eq_true rfl) ⟨show 0 + 0 ≤ (0 : Nat) by omega, show 0 + 0 ≤ (0 : Nat) by omega⟩ dX3_goOneNightOn_100 (fun H locs hB hS9 hz hk => ?_)
                have hS := hS9
                have hX : PX E (rzR c (c.R 10 1), niI c, c.B, c.Wr, mk1 (bnS c k) k (c.R 1 k) (fun _ => true)) ly L ad H := hB
                obtain ⟨hP, hly, hLb, wfx⟩ := id hX
                refine lv_iincN (v := 1) (lv' := [(2, .int (nI (k + 1))), (1, .int (nI (a + (cntN (pntB (rzR c (c.R 10 1), niI c, c.B, c.Wr, bnS c k) k) (c.R 1 k))))), (3, .ref (ad 3 k)), (0, .ref (ad 0 0))]) hx hb dX3_goOneNightOn_103 hl (k := 3) rfl (by decide) (by decide) rfl (fun ls hl => ?_)
                refine lv_goto (tgt := 58) hx hb dX3_goOneNightOn_106 (by decide) ?_
                have esh : mk1 (bnS c k) k (c.R 1 k) (fun _ => true) = bnS c (k + 1) := by first | exact bnS_t c_89 | exact bnS_f c_89
                have hX : PX E (rzR c (c.R 10 1), niI c, c.B, c.Wr, bnS c (k + 1)) ly L ad H := by rw [← esh]; exact hX
                exact ih58 (k + 1) (a + (cntN (pntB (rzR c (c.R 10 1), niI c, c.B, c.Wr, bnS c k) k) (c.R 1 k))) (by first | rfl | assumption | omega | (simp [c_30, c_66, c_89]; done) | (simp_all [c_30, c_66, c_89]; done)) (by first | (rw [ha, pnt_c (fun q => bnS_at)]; exact niF_t c_89) | (rw [ha]; exact niF_f c_89)) (by omega) _ _ hX hS _ (lv_sub hl [3, 1, 0] rfl)
        have eR : rzR c k = rzR c (c.R 10 1) := by rw [show k = c.R 10 1 by omega]
        have esh : c.sh = bnS c 0 := bnS_0
        have hX : PX E (rzR c (c.R 10 1), niI c, c.B, c.Wr, bnS c 0) ly L ad H := by rw [← eR, ← esh]; exact hX
        exact lp58 (c.R 10 0 - 0 + 1) 0 0 (by first | rfl | assumption | omega | (simp [c_30]; done) | (simp_all [c_30]; done)) (rfl) (Nat.lt_succ_self _) _ _ hX hS _ (lv_sub hl [2, 1, 0] rfl)
      · skip
        refine lv_aload_n hx hb dX3_goOneNightOn_33 rfl (lv_at hl 0 rfl) ?_
        refine pi_get hx hb hC hown hP fL_X3_16 0 0 cX_0 (v := .ref (ad 1 1)) rfl dX3_goOneNightOn_34 ?_
        refine lv_iload_n hx hb dX3_goOneNightOn_37 rfl (lv_at hl 1 rfl) ?_
        refine ro_VR (As := [.int (nI k)]) (h0 := ad 1 1) (rest := []) (v := some (ad 5 k)) hx hb hml hown hC hS hAb (mJ_get l hP 1 (cX_1 (by decide)) (fun h9 => cX_2 (by decide) h9) (hly 1 (by decide)) k (show k < c.R 10 1 by first | assumption | omega | decide | (simp only [decide_eq_false_iff_not, decide_eq_true_eq] at *; omega))) kV_X3_327 ⟨rfl, rfl⟩ ⟨Nat.le_of_ble_eq_true rfl, Nat.le_of_ble_eq_true rfl⟩ (hP.recv hC (cX_1 (i := 1) (by decide)) rfl) rfl hl (Nat.le_of_ble_eq_true rfl) ⟨show _ ≤ (0 : Nat) by omega, show _ ≤ (0 : Nat) by omega⟩ dX3_goOneNightOn_38 ?_
        have hg_8 : k < c.R 11 1 := by have := wf.sh'; omega
        refine pi_cast (nm := "") hx hb hC hown hP 5 k (cX_5 hg_8) rfl wCl_X3_65 dX3_goOneNightOn_41 ?_
        refine lv_iconstN hx hb 0 dX3_goOneNightOn_44 (by decide) ?_
        refine pwX_minutesUsed (R := rzR c k) (I := niI c) (B := c.B) (Wr := c.Wr) (S := c.sh) hx hb hC hown hX hS hA fP_X3_134 k hg_8 (v := 0) (WF.uR3 wfx (by omega)) dX3_goOneNightOn_45 (fun H locs hX hS => ?_)
        obtain ⟨hP, hly, hLb, wfx⟩ := id hX
        refine lv_iincN (v := 1) (lv' := [(1, .int (nI (k + 1))), (0, .ref (ad 0 0))]) hx hb dX3_goOneNightOn_48 hl (k := 1) rfl (by decide) (by decide) rfl (fun ls hl => ?_)
        refine lv_goto (tgt := 22) hx hb dX3_goOneNightOn_51 (by decide) ?_
        have eR : up2 (rzR c k) 3 k 0 = rzR c (k + 1) := rzR_s
        have hX : PX E (rzR c (k + 1), niI c, c.B, c.Wr, c.sh) ly L ad H := by rw [← eR]; exact hX
        exact ih22 (k + 1) (by first | rfl | assumption | omega | (simp [c_30]; done) | (simp_all [c_30]; done)) (by omega) _ _ hX hS _ (lv_sub hl [1, 0] rfl)
  have eR : up2 c.R 0 0 ((c.R 0 0) + 1) = rzR c 0 := rzR_0
  have eI : up2 c.I 0 0 ((c.I 0 0) + (nI 5)) = niI c := rfl
  have hX : PX E (rzR c 0, niI c, c.B, c.Wr, c.sh) ly L ad H := by rw [← eR, ← eI]; exact hX
  exact lp22 (c.R 10 1 - 0 + 1) 0 (by first | rfl | assumption | omega | (simp []; done) | (simp_all []; done)) (Nat.lt_succ_self _) _ _ hX hS _ (lv_sub hl [1, 0] rfl)
set_option maxHeartbeats 4000000 in
set_option maxRecDepth 100000 in
theorem mX3_pass_g (l : Launch) {E : En} {c : Cy} {ly : Ly} {L : List Nat} {ad : Nat → Nat → Nat} {H0 : Heap} (hX : PX E c ly L ad H0) (n : Nat) (hn : 1 ≤ n) (hn2 : n ≤ 30) (ht : c.R 0 0 + n ≤ 400) : MuI l yX3_pass cX3_pass 4 .int (rmk 4 0 0 87) [.ref (ad 0 0), .int (nI n)] E H0 (nI (smN (fun k => niN (niC c k)) n)) (fun H1 => PX E ((niC c n).R, (niC c n).I, (niC c n).B, (niC c n).Wr, (niC c n).sh) ly L ad H1) (cA L H0) 0 0 := by
  obtain ⟨hP, hly, hLb, wf⟩ := id hX
  have wfx := wf
  refine ro_of (by decide) (Nat.le_of_ble_eq_true rfl) ?_
  intro p e s m below meth co ls hx hb hr hml hown hlocks hnm hC hU hl
  have hS : va_S (cA L H0) s.heap H0 [] := by rw [hU]; exact va_S.rf
  have hA : ∀ q, q ∈ L → cA L H0 q := fun q h => Or.inl h
  have hN : ∀ q, s.heap.size ≤ q → cA L H0 q := fun q h => Or.inr (by rw [← hU]; exact h)
  have hAb : ∀ q, cA L H0 q → bA E q := fun q h => h.elim (hLb q) (fun z => Nat.le_trans hC.2.2.2.1 (by rw [hU]; exact z))
  have hl : lv_has ls 4 [(0, .ref (ad 0 0)), (1, .int (nI n))] := hl
  refine lv_iload_n hx hb dX3_pass_0 rfl (lv_at hl 1 rfl) ?_
  refine lv_iconstN hx hb 1 dX3_pass_1 (by decide) ?_
  refine lv_bipushN hx hb 30 dX3_pass_2 (by decide) ?_
  refine ro_S (As := [.int (nI n), .int (nI 1), .int (nI 30)]) (rest := []) (v := bI (isInS (nI n) (nI 1) (nI 30))) hx hb hml hown hC hS hAb (mX3_isWithin l (nI n) (nI 1) (nI 30) ) kS_X3_32 ⟨rfl, rfl⟩ ⟨Nat.le_of_ble_eq_true rfl, Nat.le_of_ble_eq_true rfl⟩ rfl hl (Nat.le_of_ble_eq_true rfl) ⟨show _ ≤ (0 : Nat) by omega, show _ ≤ (0 : Nat) by omega⟩ dX3_pass_4 ?_
  refine lv_bif_ne (tgt := 20) hx hb dX3_pass_7 (by decide) (fun c_7 => ?_) (fun c_7 => ?_)
  · skip
    refine lv_aload_n hx hb dX3_pass_20 rfl (lv_at hl 0 rfl) ?_
    refine pi_get hx hb hC hown hP fL_X3_22 0 0 cX_0 (v := .int (nI (c.R 0 0))) rfl dX3_pass_21 ?_
    have g_1 : c.R 0 0 ≤ 400 := wfx.nt
    refine lv_iload_n hx hb dX3_pass_24 rfl (lv_at hl 1 rfl) ?_
    refine lv_iaddN hx hb dX3_pass_25 ?_
    refine lv_sipushN hx hb 400 dX3_pass_26 (by decide) ?_
    refine lv_icmpN_le (tgt := 42) hx hb dX3_pass_29 (by decide) (by omega) (by omega) (fun c_29 => ?_) (fun c_29 => ?_)
    · skip
      refine lv_iconstN hx hb 0 dX3_pass_42 (by decide) ?_
      refine lv_istore_n (lv' := [(2, .int (nI 0)), (0, .ref (ad 0 0)), (1, .int (nI n))]) hx hb dX3_pass_43 rfl hl (by decide) rfl (fun ls hl => ?_)
      refine lv_iconstN hx hb 0 dX3_pass_44 (by decide) ?_
      refine lv_istore_n (lv' := [(3, .int (nI 0)), (2, .int (nI 0)), (0, .ref (ad 0 0)), (1, .int (nI n))]) hx hb dX3_pass_45 rfl hl (by decide) rfl (fun ls hl => ?_)
      have lp46 : ∀ fu : Nat, ∀ (k a : Nat), k ≤ n → a = smN (fun k => niN (niC c k)) k → n - k < fu → ∀ (H : Heap) (locs : List Loc), PX E ((niC c k).R, (niC c k).I, (niC c k).B, (niC c k).Wr, (niC c k).sh) ly L ad H → va_S (cA L H0) s.heap H locs → ∀ ls : Array Slot, lv_has ls 4 [(0, .ref (ad 0 0)), (1, .int (nI n)), (2, .int (nI a)), (3, .int (nI k))] → W p l e (rmk 4 0 0 87) s m ([.ref (ad 0 0), .int (nI n)] : List Value).toArray below meth co H locs 0 0 (MQ below (QiM (nI (smN (fun k => niN (niC c k)) n)) (fun H1 => PX E ((niC c n).R, (niC c n).I, (niC c n).B, (niC c n).Wr, (niC c n).sh) ly L ad H1) (cA L H0)) ([.ref (ad 0 0), .int (nI n)] : List Value).toArray s 0 0 (cA L H0)) (F0 m 46 ls []) := by
        intro fu
        induction fu with
        | zero => intro k a hk ha hfu; exact absurd hfu (Nat.not_lt_zero _)
        | succ fu ih46 =>
          intro k a hk ha hfu H locs hX hS ls hl
          obtain ⟨hP, hly, hLb, wfx⟩ := id hX
          have g0 := niC_0 c k
          refine lv_iload_n hx hb dX3_pass_46 rfl (lv_at hl 3 rfl) ?_
          refine lv_iload_n hx hb dX3_pass_47 rfl (lv_at hl 1 rfl) ?_
          refine lv_icmpN_ge (tgt := 64) hx hb dX3_pass_48 (by decide) (by omega) (by omega) (fun c_48 => ?_) (fun c_48 => ?_)
          · skip
            refine lv_iload_n hx hb dX3_pass_64 rfl (lv_at hl 2 rfl) ?_
            exact mu_iret (x := nI a) hx hb hr hlocks hS (by have z : k = n := (by omega); show PX _ _ _ _ _ _; rw [← z]; exact hX) (by rw [ha, show k = n by omega]) dX3_pass_65
          · skip
            refine lv_iload_n hx hb dX3_pass_51 rfl (lv_at hl 2 rfl) ?_
            refine lv_aload_n hx hb dX3_pass_52 rfl (lv_at hl 0 rfl) ?_
            refine mu_V (As := []) (h0 := ad 0 0) (rest := [.int (nI a)]) (v := nI (niN ((niC c k).R, (niC c k).I, (niC c k).B, (niC c k).Wr, (niC c k).sh))) hx hb hml hown hC hS hAb (mX3_goOneNightOn l hX  (show ((niC c k).R) 0 0 < 400 by first | assumption | omega | decide | (simp only [decide_eq_false_iff_not, decide_eq_true_eq] at *; omega))) (fun q h => h.elim (hA q) (fun z => hN q (Nat.le_trans hS.1 z))) kV_X3_215 ⟨rfl, rfl⟩ ⟨Nat.le_of_ble_eq_true rfl, Nat.le_of_ble_eq_true rfl⟩ (hP.recv hC cX_0 rfl) rfl hl (Nat.le_of_ble_eq_true rfl) ⟨show 0 + 0 ≤ (0 : Nat) by omega, show 0 + 0 ≤ (0 : Nat) by omega⟩ dX3_pass_53 (fun H locs hB hS9 hz hk => ?_)
            have hS := hS9
            have hX : PX E (rzR ((niC c k).R, (niC c k).I, (niC c k).B, (niC c k).Wr, (niC c k).sh) (((niC c k).R) 10 1), niI ((niC c k).R, (niC c k).I, (niC c k).B, (niC c k).Wr, (niC c k).sh), (niC c k).B, (niC c k).Wr, bnS ((niC c k).R, (niC c k).I, (niC c k).B, (niC c k).Wr, (niC c k).sh) (((niC c k).R) 10 0)) ly L ad H := hB
            obtain ⟨hP, hly, hLb, wfx⟩ := id hX
            refine lv_iaddN hx hb dX3_pass_56 ?_
            refine lv_istore_n (lv' := [(2, .int (nI (a + (niN ((niC c k).R, (niC c k).I, (niC c k).B, (niC c k).Wr, (niC c k).sh))))), (0, .ref (ad 0 0)), (1, .int (nI n)), (3, .int (nI k))]) hx hb dX3_pass_57 rfl hl (by decide) rfl (fun ls hl => ?_)
            refine lv_iincN (v := 1) (lv' := [(3, .int (nI (k + 1))), (2, .int (nI (a + (niN ((niC c k).R, (niC c k).I, (niC c k).B, (niC c k).Wr, (niC c k).sh))))), (0, .ref (ad 0 0)), (1, .int (nI n))]) hx hb dX3_pass_58 hl (k := 3) rfl (by decide) (by decide) rfl (fun ls hl => ?_)
            refine lv_goto (tgt := 46) hx hb dX3_pass_61 (by decide) ?_
            have eR : rzR ((niC c k).R, (niC c k).I, (niC c k).B, (niC c k).Wr, (niC c k).sh) (((niC c k).R) 10 1) = (niC c (k + 1)).R := rfl
            have eI : niI ((niC c k).R, (niC c k).I, (niC c k).B, (niC c k).Wr, (niC c k).sh) = (niC c (k + 1)).I := rfl
            have eB : (niC c k).B = (niC c (k + 1)).B := rfl
            have eWr : (niC c k).Wr = (niC c (k + 1)).Wr := rfl
            have esh : bnS ((niC c k).R, (niC c k).I, (niC c k).B, (niC c k).Wr, (niC c k).sh) (((niC c k).R) 10 0) = (niC c (k + 1)).sh := rfl
            have hX : PX E ((niC c (k + 1)).R, (niC c (k + 1)).I, (niC c (k + 1)).B, (niC c (k + 1)).Wr, (niC c (k + 1)).sh) ly L ad H := by rw [← eR, ← eI, ← eB, ← eWr, ← esh]; exact hX
            exact ih46 (k + 1) (a + (niN ((niC c k).R, (niC c k).I, (niC c k).B, (niC c k).Wr, (niC c k).sh))) (by first | rfl | assumption | omega | (simp [c_7, c_29, c_48]; done) | (simp_all [c_7, c_29, c_48]; done)) (by rw [ha]; rfl) (by omega) _ _ hX hS _ (lv_sub hl [2, 3, 1, 0] rfl)
      have eR : c.R = (niC c 0).R := rfl
      have eI : c.I = (niC c 0).I := rfl
      have eB : c.B = (niC c 0).B := rfl
      have eWr : c.Wr = (niC c 0).Wr := rfl
      have esh : c.sh = (niC c 0).sh := rfl
      have hX : PX E ((niC c 0).R, (niC c 0).I, (niC c 0).B, (niC c 0).Wr, (niC c 0).sh) ly L ad H0 := by rw [← eR, ← eI, ← eB, ← eWr, ← esh]; exact hX
      exact lp46 (n - 0 + 1) 0 0 (by first | rfl | assumption | omega | (simp [c_7, c_29]; done) | (simp_all [c_7, c_29]; done)) (rfl) (Nat.lt_succ_self _) _ _ hX hS _ (lv_sub hl [2, 3, 1, 0] rfl)
    · skip
      exact absurd c_29 (by omega)
  · skip
    exact absurd (c_7.symm.trans (isIn_1 hn hn2 (by decide))) (by decide)
