/-! what the calls do -/
/-- cells of one wall bared, up to k -/
def mk1 (S : Nat → Nat → Option Nat) (i k : Nat) (P : Nat → Bool) : Nat → Nat → Option Nat := fun a q => if a = i ∧ q < k ∧ P q = true then none else S a q
theorem mk1_0 {S : Nat → Nat → Option Nat} {i : Nat} {P : Nat → Bool} : mk1 S i 0 P = S := funext fun a => funext fun q => if_neg fun z => by omega
theorem mk1_at {S : Nat → Nat → Option Nat} {i k : Nat} {P : Nat → Bool} : mk1 S i k P i k = S i k := if_neg fun z => by omega
theorem mk1_t {S : Nat → Nat → Option Nat} {i k : Nat} {P : Nat → Bool} (h : P k = true) : up2 (mk1 S i k P) i k none = mk1 S i (k + 1) P := by
  funext a q
  unfold up2 mk1
  by_cases z : a = i ∧ q = k
  · rw [if_pos z, if_pos ⟨z.1, by omega, by rw [z.2]; exact h⟩]
  · rw [if_neg z]
    by_cases y : a = i ∧ q < k ∧ P q = true
    · rw [if_pos y, if_pos ⟨y.1, by omega, y.2.2⟩]
    · rw [if_neg y, if_neg fun x => y ⟨x.1, by have := x.2.1; have : ¬ q = k := fun w => z ⟨x.1, w⟩; omega, x.2.2⟩]
theorem mk1_f {S : Nat → Nat → Option Nat} {i k : Nat} {P : Nat → Bool} (h : P k = false) : mk1 S i k P = mk1 S i (k + 1) P := by
  funext a q
  unfold mk1
  by_cases y : a = i ∧ q < k ∧ P q = true
  · rw [if_pos y, if_pos ⟨y.1, by omega, y.2.2⟩]
  · rw [if_neg y, if_neg fun x => y ⟨x.1, by have := x.2.1; have : ¬ q = k := (fun w => absurd x.2.2 (by rw [w, h]; decide)); omega, x.2.2⟩]
theorem tbS_c {c : Cy} {I : Nat → Nat → Int32} {S : Nat → Nat → Option Nat} {i k : Nat} (h : S i k = c.sh i k) : tbS (c.R, c.I, c.B, c.Wr, S) i k = tbS c i k := by
  show (match S i k with
    | none => false
    | some j => !c.B 1 j || !permS (c.R, c.I, c.B, c.Wr, S) (c.R 5 j) i) = _
  rw [h]; rfl
theorem shw_t {c : Cy} {i k x j : Nat} (h : c.sh i k = some x) (e : x = j) : shwB c i j k = true := by unfold shwB; rw [h, e]; simp
theorem shw_f {c : Cy} {i k x j : Nat} (h : c.sh i k = some x) (e : ¬ x = j) : shwB c i j k = false := by unfold shwB; rw [h]; simp [e]
theorem shw_n {c : Cy} {i k j : Nat} (h : c.sh i k = none) : shwB c i j k = false := by unfold shwB; rw [h]; simp
theorem bI_tf : True := trivial
/-- permit, watch -/
def pmI (c : Cy) (i : Nat) (a b : Int32) : Nat → Nat → Int32 := up2 (up2 c.I 4 i a) 5 i b
def waI (c : Cy) (i a b : Nat) : Nat → Nat → Int32 := up2 (up2 c.I 6 i (nI a)) 7 i (nI b)
/-- clear: what is owed then, and the sum -/
def clw (c : Cy) (j : Nat) : Int32 := nI 5 * wtf (c.R 9 j)
def clI (c : Cy) (i : Nat) : Nat → Nat → Nat → Int32
  | 0 => c.I
  | k + 1 => match c.sh i k with
    | none => clI c i k
    | some j => if hrS c j = true then up2 (clI c i k) 14 (c.R 5 j) (clI c i k 14 (c.R 5 j) + clw c j) else clI c i k
def clT (c : Cy) (i : Nat) : Nat → Int32
  | 0 => nI 0
  | k + 1 => match c.sh i k with
    | none => clT c i k
    | some j => if hrS c j = true then clT c i k + clw c j else clT c i k
theorem clI_n {c : Cy} {i k : Nat} (h : c.sh i k = none) : clI c i k = clI c i (k + 1) := by simp only [clI, h]
theorem clI_f {c : Cy} {i k j : Nat} (h : c.sh i k = some j) (e : hrS c j = false) : clI c i k = clI c i (k + 1) := by simp [clI, h, e]
theorem clI_t {c : Cy} {i k j : Nat} (h : c.sh i k = some j) (e : hrS c j = true) : up2 (clI c i k) 14 (c.R 5 j) (clI c i k 14 (c.R 5 j) + clw c j) = clI c i (k + 1) := by simp [clI, h, e]
theorem clT_n {c : Cy} {i k : Nat} (h : c.sh i k = none) : clT c i k = clT c i (k + 1) := by simp only [clT, h]
theorem clT_f {c : Cy} {i k j : Nat} (h : c.sh i k = some j) (e : hrS c j = false) : clT c i k = clT c i (k + 1) := by simp [clT, h, e]
theorem clT_t {c : Cy} {i k j : Nat} (h : c.sh i k = some j) (e : hrS c j = true) : clT c i k + clw c j = clT c i (k + 1) := by simp [clT, h, e]
/-- paint: the wrongs -/
def dwW (c : Cy) (h i f kd : Nat) : Nat → Nat → Nat → Int32
  | 0 => c.Wr
  | n + 1 => match waS c h i f (f + n) kd with
    | none => dwW c h i f kd n
    | some x => up2 (dwW c h i f kd n) h x (dwW c h i f kd n h x + nI 1)
theorem dwW_n {c : Cy} {h i f kd k : Nat} (hk : f ≤ k) (e : waS c h i f k kd = none) : dwW c h i f kd (k - f) = dwW c h i f kd (k + 1 - f) := by
  rw [show k + 1 - f = (k - f) + 1 by omega]
  simp only [dwW]
  rw [show f + (k - f) = k by omega, e]
theorem dwW_s {c : Cy} {h i f kd k x : Nat} (hk : f ≤ k) (e : waS c h i f k kd = some x) : up2 (dwW c h i f kd (k - f)) h x (dwW c h i f kd (k - f) h x + nI 1) = dwW c h i f kd (k + 1 - f) := by
  rw [show k + 1 - f = (k - f) + 1 by omega]
  simp only [dwW]
  rw [show f + (k - f) = k by omega, e]
/-- a night goes by -/
def rzR (c : Cy) (k : Nat) : Nat → Nat → Nat := fun a h => if a = 3 ∧ h < k then 0 else if a = 0 ∧ h = 0 then c.R 0 0 + 1 else c.R a h
def niI (c : Cy) : Nat → Nat → Int32 := up2 c.I 0 0 (c.I 0 0 + nI 5)
def bnS (c : Cy) (k : Nat) : Nat → Nat → Option Nat := fun a q => if a < k ∧ clnS c a (c.R 0 0 + 1) = true ∧ q < c.R 1 a then none else c.sh a q
def smN (f : Nat → Nat) : Nat → Nat
  | 0 => 0
  | n + 1 => smN f n + f n
def niF (c : Cy) (i : Nat) : Nat := if clnS c i (c.R 0 0 + 1) = true then cntN (pntB c i) (c.R 1 i) else 0
def niN (c : Cy) : Nat := smN (niF c) (c.R 10 0)
def ni1 (c : Cy) : Cy := (rzR c (c.R 10 1), niI c, c.B, c.Wr, bnS c (c.R 10 0))
def niC (c : Cy) : Nat → Cy
  | 0 => c
  | n + 1 => ni1 (niC c n)
theorem rzR_0 {c : Cy} : up2 c.R 0 0 (c.R 0 0 + 1) = rzR c 0 := by
  funext a h
  unfold up2 rzR
  rw [if_neg (by omega : ¬ (a = 3 ∧ h < 0))]
theorem rzR_s {c : Cy} {k : Nat} : up2 (rzR c k) 3 k 0 = rzR c (k + 1) := by
  funext a h
  unfold up2 rzR
  by_cases z : a = 3 ∧ h = k
  · rw [if_pos z, if_pos ⟨z.1, by omega⟩]
  · rw [if_neg z]
    by_cases y : a = 3 ∧ h < k
    · rw [if_pos y, if_pos (show a = 3 ∧ h < k + 1 from ⟨y.1, by omega⟩)]
    · rw [if_neg y, if_neg (show ¬ (a = 3 ∧ h < k + 1) from fun x => y ⟨x.1, by have : ¬ h = k := fun w => z ⟨x.1, w⟩; omega⟩)]
theorem bnS_0 {c : Cy} : c.sh = bnS c 0 := funext fun a => funext fun q => (if_neg fun z => by omega).symm
theorem bnS_at {c : Cy} {k q : Nat} : bnS c k k q = c.sh k q := if_neg fun z => by omega
theorem bnS_t {c : Cy} {k : Nat} (h : clnS c k (c.R 0 0 + 1) = true) : mk1 (bnS c k) k (c.R 1 k) (fun _ => true) = bnS c (k + 1) := by
  funext a q
  unfold mk1 bnS
  by_cases z : a = k
  · subst z
    by_cases y : q < c.R 1 a
    · rw [if_pos ⟨rfl, y, rfl⟩, if_pos ⟨by omega, h, y⟩]
    · rw [if_neg fun x => y x.2.1, if_neg fun x => y x.2.2, if_neg fun x => y x.2.2]
  · rw [if_neg fun x => z x.1]
    by_cases y : a < k ∧ clnS c a (c.R 0 0 + 1) = true ∧ q < c.R 1 a
    · rw [if_pos y, if_pos ⟨by omega, y.2⟩]
    · rw [if_neg y, if_neg fun x => y ⟨by omega, x.2⟩]
theorem bnS_f {c : Cy} {k : Nat} (h : clnS c k (c.R 0 0 + 1) = false) : bnS c k = bnS c (k + 1) := by
  funext a q
  unfold bnS
  by_cases z : a = k
  · subst z
    rw [if_neg fun x => by omega, if_neg fun x => by rw [h] at x; cases x.2.1]
  · by_cases y : a < k ∧ clnS c a (c.R 0 0 + 1) = true ∧ q < c.R 1 a
    · rw [if_pos y, if_pos ⟨by omega, y.2⟩]
    · rw [if_neg y, if_neg fun x => y ⟨by omega, x.2⟩]
theorem pnt_c {c : Cy} {R : Nat → Nat → Nat} {I : Nat → Nat → Int32} {S : Nat → Nat → Option Nat} {i n : Nat} (h : ∀ q, S i q = c.sh i q) : cntN (pntB (R, I, c.B, c.Wr, S) i) n = cntN (pntB c i) n := cntN_congr fun k _ => by
  show (S i k).isSome = (c.sh i k).isSome
  rw [h]
theorem niF_t {c : Cy} {k : Nat} (h : clnS c k (c.R 0 0 + 1) = true) : smN (niF c) k + cntN (pntB c k) (c.R 1 k) = smN (niF c) (k + 1) := by
  show _ = smN (niF c) k + niF c k
  unfold niF
  rw [if_pos h]
theorem niF_f {c : Cy} {k : Nat} (h : clnS c k (c.R 0 0 + 1) = false) : smN (niF c) k = smN (niF c) (k + 1) := by
  show _ = smN (niF c) k + niF c k
  unfold niF
  rw [if_neg (by rw [h]; decide)]
  rfl
theorem niC_0 (c : Cy) : ∀ n, (niC c n).R 0 0 = c.R 0 0 + n
  | 0 => rfl
  | n + 1 => by
    show rzR (niC c n) ((niC c n).R 10 1) 0 0 = _
    have := niC_0 c n
    show (if 0 = 3 ∧ 0 < (niC c n).R 10 1 then 0 else if 0 = 0 ∧ 0 = 0 then (niC c n).R 0 0 + 1 else (niC c n).R 0 0) = _
    rw [if_neg (by omega), if_pos ⟨rfl, rfl⟩]
    omega
section WFV
variable {R : Nat → Nat → Nat} {I : Nat → Nat → Int32} {B : Nat → Nat → Bool} {Wr : Nat → Nat → Int32} {S : Nat → Nat → Option Nat}
theorem WF.uI6 (h : WF (R, I, B, Wr, S)) {i : Nat} {v : Int32} (hv : ¬ v < 0) : WF (R, up2 I 6 i v, B, Wr, S) := by
  obtain ⟨g1, g2, g3, g4, g5, g6, g7, g8, g9, g10⟩ := h
  refine ⟨g1, g2, g3, g4, g5, g6, g7, g8, fun x hx => ?_, g10⟩
  show I 7 x = -1 ∨ ¬ up2 I 6 i v 6 x < 0
  by_cases z : x = i
  · right; rw [z, up2_same]; exact hv
  · rw [up2_ne I v (fun w => z w.2)]; exact g9 x hx
theorem WF.uI7 (h : WF (R, I, B, Wr, S)) {i : Nat} {v : Int32} (hv : ¬ I 6 i < 0) : WF (R, up2 I 7 i v, B, Wr, S) := by
  obtain ⟨g1, g2, g3, g4, g5, g6, g7, g8, g9, g10⟩ := h
  refine ⟨g1, g2, g3, g4, g5, g6, g7, g8, fun x hx => ?_, g10⟩
  show up2 I 7 i v 7 x = -1 ∨ ¬ I 6 x < 0
  by_cases z : x = i
  · right; rw [z]; exact hv
  · rw [up2_ne I v (fun w => z w.2)]; exact g9 x hx
end WFV
set_option maxHeartbeats 4000000 in
set_option maxRecDepth 100000 in
theorem mX2_bareAll (l : Launch) {E : En} {c : Cy} {ly : Ly} {L : List Nat} {ad : Nat → Nat → Nat} {H0 : Heap} (hX : PX E c ly L ad H0) (i : Nat) (hi : i < c.R 11 0) : MuV l yX2_bareAll cX2_bareAll 2 (rmk 0 0 0 0) [.ref (ad 3 i)] E H0 (fun H1 => PX E (c.R, c.I, c.B, c.Wr, mk1 c.sh i (c.R 1 i) (fun _ => true)) ly L ad H1) (cA L H0) 0 0 := by
  obtain ⟨hP, hly, hLb, wf⟩ := id hX
  have wfx := wf
  refine ro_of (by decide) (Nat.le_of_ble_eq_true rfl) ?_
  intro p e s m below meth co ls hx hb hr hml hown hlocks hnm hC hU hl
  have hS : va_S (cA L H0) s.heap H0 [] := by rw [hU]; exact va_S.rf
  have hA : ∀ q, q ∈ L → cA L H0 q := fun q h => Or.inl h
  have hN : ∀ q, s.heap.size ≤ q → cA L H0 q := fun q h => Or.inr (by rw [← hU]; exact h)
  have hAb : ∀ q, cA L H0 q → bA E q := fun q h => h.elim (hLb q) (fun z => Nat.le_trans hC.2.2.2.1 (by rw [hU]; exact z))
  have hl : lv_has ls 2 [(0, .ref (ad 3 i))] := hl
  have gw := wf.wd hi
  refine lv_iconstN hx hb 0 dX2_bareAll_0 (by decide) ?_
  refine lv_istore_n (lv' := [(1, .int (nI 0)), (0, .ref (ad 3 i))]) hx hb dX2_bareAll_1 rfl hl (by decide) rfl (fun ls hl => ?_)
  have lp2 : ∀ fu : Nat, ∀ (k : Nat), k ≤ c.R 1 i → c.R 1 i - k < fu → ∀ (H : Heap) (locs : List Loc), PX E (c.R, c.I, c.B, c.Wr, mk1 c.sh i k (fun _ => true)) ly L ad H → va_S (cA L H0) s.heap H locs → ∀ ls : Array Slot, lv_has ls 2 [(0, .ref (ad 3 i)), (1, .int (nI k))] → W p l e (rmk 0 0 0 0) s m ([.ref (ad 3 i)] : List Value).toArray below meth co H locs 0 0 (MQ below (QvM (fun H1 => PX E (c.R, c.I, c.B, c.Wr, mk1 c.sh i (c.R 1 i) (fun _ => true)) ly L ad H1) (cA L H0)) ([.ref (ad 3 i)] : List Value).toArray s 0 0 (cA L H0)) (F0 m 2 ls []) := by
    intro fu
    induction fu with
    | zero => intro k hk hfu; exact absurd hfu (Nat.not_lt_zero _)
    | succ fu ih2 =>
      intro k hk hfu H locs hX hS ls hl
      obtain ⟨hP, hly, hLb, wfx⟩ := id hX
      refine lv_iload_n hx hb dX2_bareAll_2 rfl (lv_at hl 1 rfl) ?_
      refine lv_aload_n hx hb dX2_bareAll_3 rfl (lv_at hl 0 rfl) ?_
      refine pi_get hx hb hC hown hP fL_X2_15 3 i (cX_3 hi) (v := .int (nI (c.R 1 i))) rfl dX2_bareAll_4 ?_
      have g_1 : 4 ≤ c.R 1 i ∧ c.R 1 i ≤ 16 := wfx.wd hi
      refine lv_icmpN_ge (tgt := 23) hx hb dX2_bareAll_7 (by decide) (by omega) (by omega) (fun c_7 => ?_) (fun c_7 => ?_)
      · skip
        exact mu_vret hx hb hr hlocks hS (by have z : k = c.R 1 i := (by omega); show PX _ _ _ _ _ _; rw [← z]; exact hX) dX2_bareAll_23
      · skip
        refine lv_aload_n hx hb dX2_bareAll_10 rfl (lv_at hl 0 rfl) ?_
        refine pi_get hx hb hC hown hP fL_X2_29 3 i (cX_3 hi) (v := .ref (ad 4 i)) rfl dX2_bareAll_11 ?_
        have g_2 : 4 ≤ c.R 1 i ∧ c.R 1 i ≤ 16 := wfx.wd hi
        refine lv_iload_n hx hb dX2_bareAll_14 rfl (lv_at hl 1 rfl) ?_
        refine lv_null hx hb dX2_bareAll_15 ?_
        refine pwX_shownN (R := c.R) (I := c.I) (B := c.B) (Wr := c.Wr) (S := mk1 c.sh i k (fun _ => true)) hx hb hC hX hS hA i hi (y := k) (by first | assumption | omega) (by omega) (WF.uS wfx (fun _ z => by cases z)) dX2_bareAll_16 (fun H locs hX hS => ?_)
        obtain ⟨hP, hly, hLb, wfx⟩ := id hX
        refine lv_iincN (v := 1) (lv' := [(1, .int (nI (k + 1))), (0, .ref (ad 3 i))]) hx hb dX2_bareAll_17 hl (k := 1) rfl (by decide) (by decide) rfl (fun ls hl => ?_)
        refine lv_goto (tgt := 2) hx hb dX2_bareAll_20 (by decide) ?_
        have esh : up2 (mk1 c.sh i k (fun _ => true)) i k none = mk1 c.sh i (k + 1) (fun _ => true) := mk1_t rfl
        have hX : PX E (c.R, c.I, c.B, c.Wr, mk1 c.sh i (k + 1) (fun _ => true)) ly L ad H := by rw [← esh]; exact hX
        exact ih2 (k + 1) (by first | rfl | assumption | omega | (simp [c_7]; done) | (simp_all [c_7]; done)) (by omega) _ _ hX hS _ (lv_sub hl [1, 0] rfl)
  have esh : c.sh = mk1 c.sh i 0 (fun _ => true) := mk1_0.symm
  have hX : PX E (c.R, c.I, c.B, c.Wr, mk1 c.sh i 0 (fun _ => true)) ly L ad H0 := by rw [← esh]; exact hX
  exact lp2 (c.R 1 i - 0 + 1) 0 (by first | rfl | assumption | omega | (simp []; done) | (simp_all []; done)) (Nat.lt_succ_self _) _ _ hX hS _ (lv_sub hl [1, 0] rfl)
set_option maxHeartbeats 4000000 in
set_option maxRecDepth 100000 in
theorem mX3_goOneNightOn (l : Launch) {E : En} {c : Cy} {ly : Ly} {L : List Nat} {ad : Nat → Nat → Nat} {H0 : Heap} (hX : PX E c ly L ad H0)  (ht : c.R 0 0 < 400) : MuI l yX3_goOneNightOn cX3_goOneNightOn 4 .int (rmk 3 0 0 64) [.ref (ad 0 0)] E H0 (nI (niN c)) (fun H1 => PX E (rzR c (c.R 10 1), niI c, c.B, c.Wr, bnS c (c.R 10 0)) ly L ad H1) (cA L H0) 0 0 := by
  obtain ⟨hP, hly, hLb, wf⟩ := id hX
  have wfx := wf
  refine ro_of (by decide) (Nat.le_of_ble_eq_true rfl) ?_
  intro p e s m below meth co ls hx hb hr hml hown hlocks hnm hC hU hl
  have hS : va_S (cA L H0) s.heap H0 [] := by rw [hU]; exact va_S.rf
  have hA : ∀ q, q ∈ L → cA L H0 q := fun q h => Or.inl h
  have hN : ∀ q, s.heap.size ≤ q → cA L H0 q := fun q h => Or.inr (by rw [← hU]; exact h)
  have hAb : ∀ q, cA L H0 q → bA E q := fun q h => h.elim (hLb q) (fun z => Nat.le_trans hC.2.2.2.1 (by rw [hU]; exact z))
  have hl : lv_has ls 4 [(0, .ref (ad 0 0))] := hl
  have gw := wf.nw
  have gs := wf.sw
  have gh := wf.nh
  have gz := wf.sh'
  refine lv_aload_n hx hb dX3_goOneNightOn_0 rfl (lv_at hl 0 rfl) ?_
  refine lv_dup hx hb dX3_goOneNightOn_1 rfl ?_
  refine pi_get hx hb hC hown hP fL_X3_22 0 0 cX_0 (v := .int (nI (c.R 0 0))) rfl dX3_goOneNightOn_2 ?_
  have g_1 : c.R 0 0 ≤ 400 := wfx.nt
  refine lv_iconstN hx hb 1 dX3_goOneNightOn_5 (by decide) ?_
  refine lv_iaddN hx hb dX3_goOneNightOn_6 ?_
  refine pwX_tonight (R := c.R) (I := c.I) (B := c.B) (Wr := c.Wr) (S := c.sh) hx hb hC hown hX hS hA fP_X3_22 (v := (c.R 0 0) + 1) (WF.uR0 wfx (by omega)) dX3_goOneNightOn_7 (fun H locs hX hS => ?_)
  obtain ⟨hP, hly, hLb, wfx⟩ := id hX
  refine lv_aload_n hx hb dX3_goOneNightOn_10 rfl (lv_at hl 0 rfl) ?_
  refine lv_dup hx hb dX3_goOneNightOn_11 rfl ?_
  refine pi_get hx hb hC hown hP fL_X3_26 0 0 cX_0 (v := .int (c.I 0 0)) rfl dX3_goOneNightOn_12 ?_
  refine lv_iconstN hx hb 5 dX3_goOneNightOn_15 (by decide) ?_
  refine lv_iadd hx hb dX3_goOneNightOn_16 ?_
  refine pwX_coins (R := up2 c.R 0 0 ((c.R 0 0) + 1)) (I := c.I) (B := c.B) (Wr := c.Wr) (S := c.sh) hx hb hC hown hX hS hA fP_X3_26 (v := (c.I 0 0) + (nI 5)) (WF.uI wfx (by decide)) dX3_goOneNightOn_17 (fun H locs hX hS => ?_)
  obtain ⟨hP, hly, hLb, wfx⟩ := id hX
  refine lv_iconstN hx hb 0 dX3_goOneNightOn_20 (by decide) ?_
  refine lv_istore_n (lv' := [(1, .int (nI 0)), (0, .ref (ad 0 0))]) hx hb dX3_goOneNightOn_21 rfl hl (by decide) rfl (fun ls hl => ?_)
  have lp22 : ∀ fu : Nat, ∀ (k : Nat), k ≤ c.R 10 1 → c.R 10 1 - k < fu → ∀ (H : Heap) (locs : List Loc), PX E (rzR c k, niI c, c.B, c.Wr, c.sh) ly L ad H → va_S (cA L H0) s.heap H locs → ∀ ls : Array Slot, lv_has ls 4 [(0, .ref (ad 0 0)), (1, .int (nI k))] → W p l e (rmk 3 0 0 64) s m ([.ref (ad 0 0)] : List Value).toArray below meth co H locs 0 0 (MQ below (QiM (nI (niN c)) (fun H1 => PX E (rzR c (c.R 10 1), niI c, c.B, c.Wr, bnS c (c.R 10 0)) ly L ad H1) (cA L H0)) ([.ref (ad 0 0)] : List Value).toArray s 0 0 (cA L H0)) (F0 m 22 ls []) := by
    intro fu
    induction fu with
    | zero => intro k hk hfu; exact absurd hfu (Nat.not_lt_zero _)
    | succ fu ih22 =>
      intro k hk hfu H locs hX hS ls hl
      obtain ⟨hP, hly, hLb, wfx⟩ := id hX
      refine lv_iload_n hx hb dX3_goOneNightOn_22 rfl (lv_at hl 1 rfl) ?_
      refine lv_aload_n hx hb dX3_goOneNightOn_23 rfl (lv_at hl 0 rfl) ?_
      refine pi_get hx hb hC hown hP fL_X3_16 0 0 cX_0 (v := .ref (ad 1 1)) rfl dX3_goOneNightOn_24 ?_
      refine ro_V (As := []) (h0 := ad 1 1) (rest := [.int (nI k)]) (v := nI (c.R 10 1)) hx hb hml hown hC hS hAb (mJ_size l hP 1 (cX_1 (by decide))) kV_X3_43 ⟨rfl, rfl⟩ ⟨Nat.le_of_ble_eq_true rfl, Nat.le_of_ble_eq_true rfl⟩ (hP.recv hC (cX_1 (i := 1) (by decide)) rfl) rfl hl (Nat.le_of_ble_eq_true rfl) ⟨show _ ≤ (0 : Nat) by omega, show _ ≤ (0 : Nat) by omega⟩ dX3_goOneNightOn_27 ?_
      have g_2 := wf.sh'
      have g_3 := wf.nh
      refine lv_icmpN_ge (tgt := 54) hx hb dX3_goOneNightOn_30 (by decide) (by omega) (by omega) (fun c_30 => ?_) (fun c_30 => ?_)
      · skip
        refine lv_iconstN hx hb 0 dX3_goOneNightOn_54 (by decide) ?_
        refine lv_istore_n (lv' := [(1, .int (nI 0)), (0, .ref (ad 0 0))]) hx hb dX3_goOneNightOn_55 rfl hl (by decide) rfl (fun ls hl => ?_)
        refine lv_iconstN hx hb 0 dX3_goOneNightOn_56 (by decide) ?_
        refine lv_istore_n (lv' := [(2, .int (nI 0)), (1, .int (nI 0)), (0, .ref (ad 0 0))]) hx hb dX3_goOneNightOn_57 rfl hl (by decide) rfl (fun ls hl => ?_)
        have lp58 : ∀ fu : Nat, ∀ (k a : Nat), k ≤ c.R 10 0 → a = smN (niF c) k → c.R 10 0 - k < fu → ∀ (H : Heap) (locs : List Loc), PX E (rzR c (c.R 10 1), niI c, c.B, c.Wr, bnS c k) ly L ad H → va_S (cA L H0) s.heap H locs → ∀ ls : Array Slot, lv_has ls 4 [(0, .ref (ad 0 0)), (1, .int (nI a)), (2, .int (nI k))] → W p l e (rmk 3 0 0 64) s m ([.ref (ad 0 0)] : List Value).toArray below meth co H locs 0 0 (MQ below (QiM (nI (niN c)) (fun H1 => PX E (rzR c (c.R 10 1), niI c, c.B, c.Wr, bnS c (c.R 10 0)) ly L ad H1) (cA L H0)) ([.ref (ad 0 0)] : List Value).toArray s 0 0 (cA L H0)) (F0 m 58 ls []) := by
          intro fu
          induction fu with
          | zero => intro k a hk ha hfu; exact absurd hfu (Nat.not_lt_zero _)
          | succ fu ih58 =>
            intro k a hk ha hfu H locs hX hS ls hl
            obtain ⟨hP, hly, hLb, wfx⟩ := id hX
            refine lv_iload_n hx hb dX3_goOneNightOn_58 rfl (lv_at hl 2 rfl) ?_
            refine lv_aload_n hx hb dX3_goOneNightOn_59 rfl (lv_at hl 0 rfl) ?_
            refine pi_get hx hb hC hown hP fL_X3_10 0 0 cX_0 (v := .ref (ad 1 0)) rfl dX3_goOneNightOn_60 ?_
            refine ro_V (As := []) (h0 := ad 1 0) (rest := [.int (nI k)]) (v := nI (c.R 10 0)) hx hb hml hown hC hS hAb (mJ_size l hP 0 (cX_1 (by decide))) kV_X3_43 ⟨rfl, rfl⟩ ⟨Nat.le_of_ble_eq_true rfl, Nat.le_of_ble_eq_true rfl⟩ (hP.recv hC (cX_1 (i := 0) (by decide)) rfl) rfl hl (Nat.le_of_ble_eq_true rfl) ⟨show _ ≤ (0 : Nat) by omega, show _ ≤ (0 : Nat) by omega⟩ dX3_goOneNightOn_63 ?_
            have g_4 := wf.sw
            have g_5 := wf.nw
            refine lv_icmpN_ge (tgt := 109) hx hb dX3_goOneNightOn_66 (by decide) (by omega) (by omega) (fun c_66 => ?_) (fun c_66 => ?_)
            · skip
              refine lv_iload_n hx hb dX3_goOneNightOn_109 rfl (lv_at hl 1 rfl) ?_
              exact mu_iret (x := nI a) hx hb hr hlocks hS (by have z : k = c.R 10 0 := (by omega); show PX _ _ _ _ _ _; rw [← z]; exact hX) (by rw [ha, show k = c.R 10 0 by omega]; rfl) dX3_goOneNightOn_110
            · skip
              refine lv_aload_n hx hb dX3_goOneNightOn_69 rfl (lv_at hl 0 rfl) ?_
              refine pi_get hx hb hC hown hP fL_X3_10 0 0 cX_0 (v := .ref (ad 1 0)) rfl dX3_goOneNightOn_70 ?_
              refine lv_iload_n hx hb dX3_goOneNightOn_73 rfl (lv_at hl 2 rfl) ?_
              refine ro_VR (As := [.int (nI k)]) (h0 := ad 1 0) (rest := []) (v := some (ad 3 k)) hx hb hml hown hC hS hAb (mJ_get l hP 0 (cX_1 (by decide)) (fun h9 => cX_2 (by decide) h9) (hly 0 (by decide)) k (by first | assumption | omega)) kV_X3_327 ⟨rfl, rfl⟩ ⟨Nat.le_of_ble_eq_true rfl, Nat.le_of_ble_eq_true rfl⟩ (hP.recv hC (cX_1 (i := 0) (by decide)) rfl) rfl hl (Nat.le_of_ble_eq_true rfl) ⟨show _ ≤ (0 : Nat) by omega, show _ ≤ (0 : Nat) by omega⟩ dX3_goOneNightOn_74 ?_
              have hg_6 : k < c.R 11 0 := by have := wf.sw; omega
              refine pi_cast (nm := "") hx hb hC hown hP 3 k (cX_3 hg_6) rfl wCl_X3_52 dX3_goOneNightOn_77 ?_
              refine lv_astore_n (lv' := [(3, .ref (ad 3 k)), (0, .ref (ad 0 0)), (1, .int (nI a)), (2, .int (nI k))]) hx hb dX3_goOneNightOn_80 rfl hl (by decide) rfl (fun ls hl => ?_)
              refine lv_aload_n hx hb dX3_goOneNightOn_81 rfl (lv_at hl 0 rfl) ?_
              refine lv_aload_n hx hb dX3_goOneNightOn_82 rfl (lv_at hl 1 rfl) ?_
              refine pi_get hx hb hC hown hP fL_X3_22 0 0 cX_0 (v := .int (nI (c.R 0 0 + 1))) rfl dX3_goOneNightOn_83 ?_
              have g_7 : c.R 0 0 + 1 ≤ 400 := wfx.nt
              refine ro_V (As := [.int (nI (c.R 0 0 + 1))]) (h0 := ad 3 k) (rest := []) (v := bI (clnS c k (c.R 0 0 + 1))) hx hb hml hown hC hS hAb (mX2_isCleanedIn l hX k (c.R 0 0 + 1) hg_6 (show (c.R 0 0 + 1) < 1000 by first | assumption | omega | decide | (simp only [decide_eq_false_iff_not, decide_eq_true_eq] at *; omega))) kV_X3_417 ⟨rfl, rfl⟩ ⟨Nat.le_of_ble_eq_true rfl, Nat.le_of_ble_eq_true rfl⟩ (hP.recv hC (cX_3 hg_6) rfl) rfl hl (Nat.le_of_ble_eq_true rfl) ⟨show _ ≤ (0 : Nat) by omega, show _ ≤ (0 : Nat) by omega⟩ dX3_goOneNightOn_86 ?_
              refine lv_bif_eq (tgt := 103) hx hb dX3_goOneNightOn_89 (by decide) (fun c_89 => ?_) (fun c_89 => ?_)
              · skip
                refine lv_iincN (v := 1) (lv' := [(2, .int (nI (k + 1))), (3, .ref (ad 3 k)), (0, .ref (ad 0 0)), (1, .int (nI a))]) hx hb dX3_goOneNightOn_103 hl (k := 3) rfl (by decide) (by decide) rfl (fun ls hl => ?_)
                refine lv_goto (tgt := 58) hx hb dX3_goOneNightOn_106 (by decide) ?_
                have esh : bnS c k = bnS c (k + 1) := by first | exact bnS_t c_89 | exact bnS_f c_89
                have hX : PX E (rzR c (c.R 10 1), niI c, c.B, c.Wr, bnS c (k + 1)) ly L ad H := by rw [← esh]; exact hX
                exact ih58 (k + 1) a (by first | rfl | assumption | omega | (simp [c_30, c_66, c_89]; done) | (simp_all [c_30, c_66, c_89]; done)) (by first | (rw [ha, pnt_c (fun q => bnS_at)]; exact niF_t c_89) | (rw [ha]; exact niF_f c_89)) (by omega) _ _ hX hS _ (lv_sub hl [2, 3, 0] rfl)
              · skip
                refine lv_iload_n hx hb dX3_goOneNightOn_92 rfl (lv_at hl 2 rfl) ?_
                refine lv_aload_n hx hb dX3_goOneNightOn_93 rfl (lv_at hl 0 rfl) ?_
                refine ro_V (As := []) (h0 := ad 3 k) (rest := [.int (nI a)]) (v := nI (cntN (pntB (rzR c (c.R 10 1), niI c, c.B, c.Wr, bnS c k) k) (c.R 1 k))) hx hb hml hown hC hS hAb (mX2_paintedCells l hX k hg_6) kV_X3_224 ⟨rfl, rfl⟩ ⟨Nat.le_of_ble_eq_true rfl, Nat.le_of_ble_eq_true rfl⟩ (hP.recv hC (cX_3 hg_6) rfl) rfl hl (Nat.le_of_ble_eq_true rfl) ⟨show _ ≤ (0 : Nat) by omega, show _ ≤ (0 : Nat) by omega⟩ dX3_goOneNightOn_94 ?_
                refine lv_iaddN hx hb dX3_goOneNightOn_97 ?_
                refine lv_istore_n (lv' := [(1, .int (nI (a + (cntN (pntB (rzR c (c.R 10 1), niI c, c.B, c.Wr, bnS c k) k) (c.R 1 k))))), (3, .ref (ad 3 k)), (0, .ref (ad 0 0)), (2, .int (nI k))]) hx hb dX3_goOneNightOn_98 rfl hl (by decide) rfl (fun ls hl => ?_)
                refine lv_aload_n hx hb dX3_goOneNightOn_99 rfl (lv_at hl 1 rfl) ?_
                refine mu_VV (As := []) (h0 := ad 3 k) (rest := []) hx hb hml hown hC hS hAb (mX2_bareAll l hX k hg_6) (fun q h => h.elim (hA q) (fun z => hN q (Nat.le_trans hS.1 z))) kV_X3_179 ⟨rfl, rfl⟩ ⟨Nat.le_of_ble_eq_true rfl, Nat.le_of_ble_eq_true rfl⟩ (hP.recv hC (cX_3 hg_6) rfl) rfl hl (Nat.le_of_ble_eq_true rfl) ⟨show 0 + 0 ≤ (0 : Nat) by omega, show 0 + 0 ≤ (0 : Nat) by omega⟩ dX3_goOneNightOn_100 (fun H locs hB hS9 hz hk => ?_)
                have hS := hS9
                have hX : PX E (rzR c (c.R 10 1), niI c, c.B, c.Wr, mk1 (bnS c k) k (c.R 1 k) (fun _ => true)) ly L ad H := hB
                obtain ⟨hP, hly, hLb, wfx⟩ := id hX
                refine lv_iincN (v := 1) (lv' := [(2, .int (nI (k + 1))), (1, .int (nI (a + (cntN (pntB (rzR c (c.R 10 1), niI c, c.B, c.Wr, bnS c k) k) (c.R 1 k))))), (3, .ref (ad 3 k)), (0, .ref (ad 0 0))]) hx hb dX3_goOneNightOn_103 hl (k := 3) rfl (by decide) (by decide) rfl (fun ls hl => ?_)
                refine lv_goto (tgt := 58) hx hb dX3_goOneNightOn_106 (by decide) ?_
                have esh : mk1 (bnS c k) k (c.R 1 k) (fun _ => true) = bnS c (k + 1) := by first | exact bnS_t c_89 | exact bnS_f c_89
                have hX : PX E (rzR c (c.R 10 1), niI c, c.B, c.Wr, bnS c (k + 1)) ly L ad H := by rw [← esh]; exact hX
                exact ih58 (k + 1) (a + (cntN (pntB (rzR c (c.R 10 1), niI c, c.B, c.Wr, bnS c k) k) (c.R 1 k))) (by first | rfl | assumption | omega | (simp [c_30, c_66, c_89]; done) | (simp_all [c_30, c_66, c_89]; done)) (by first | (rw [ha, pnt_c (fun q => bnS_at)]; exact niF_t c_89) | (rw [ha]; exact niF_f c_89)) (by omega) _ _ hX hS _ (lv_sub hl [3, 1, 0] rfl)
        have eR : rzR c k = rzR c (c.R 10 1) := by rw [show k = c.R 10 1 by omega]
        have esh : c.sh = bnS c 0 := bnS_0
        have hX : PX E (rzR c (c.R 10 1), niI c, c.B, c.Wr, bnS c 0) ly L ad H := by rw [← eR, ← esh]; exact hX
        exact lp58 (c.R 10 0 - 0 + 1) 0 0 (by first | rfl | assumption | omega | (simp [c_30]; done) | (simp_all [c_30]; done)) (rfl) (Nat.lt_succ_self _) _ _ hX hS _ (lv_sub hl [2, 1, 0] rfl)
      · skip
        refine lv_aload_n hx hb dX3_goOneNightOn_33 rfl (lv_at hl 0 rfl) ?_
        refine pi_get hx hb hC hown hP fL_X3_16 0 0 cX_0 (v := .ref (ad 1 1)) rfl dX3_goOneNightOn_34 ?_
        refine lv_iload_n hx hb dX3_goOneNightOn_37 rfl (lv_at hl 1 rfl) ?_
        refine ro_VR (As := [.int (nI k)]) (h0 := ad 1 1) (rest := []) (v := some (ad 5 k)) hx hb hml hown hC hS hAb (mJ_get l hP 1 (cX_1 (by decide)) (fun h9 => cX_2 (by decide) h9) (hly 1 (by decide)) k (by first | assumption | omega)) kV_X3_327 ⟨rfl, rfl⟩ ⟨Nat.le_of_ble_eq_true rfl, Nat.le_of_ble_eq_true rfl⟩ (hP.recv hC (cX_1 (i := 1) (by decide)) rfl) rfl hl (Nat.le_of_ble_eq_true rfl) ⟨show _ ≤ (0 : Nat) by omega, show _ ≤ (0 : Nat) by omega⟩ dX3_goOneNightOn_38 ?_
        have hg_8 : k < c.R 11 1 := by have := wf.sh'; omega
        refine pi_cast (nm := "") hx hb hC hown hP 5 k (cX_5 hg_8) rfl wCl_X3_65 dX3_goOneNightOn_41 ?_
        refine lv_iconstN hx hb 0 dX3_goOneNightOn_44 (by decide) ?_
        refine pwX_minutesUsed (R := rzR c k) (I := niI c) (B := c.B) (Wr := c.Wr) (S := c.sh) hx hb hC hown hX hS hA fP_X3_134 k hg_8 (v := 0) (WF.uR3 wfx (by omega)) dX3_goOneNightOn_45 (fun H locs hX hS => ?_)
        obtain ⟨hP, hly, hLb, wfx⟩ := id hX
        refine lv_iincN (v := 1) (lv' := [(1, .int (nI (k + 1))), (0, .ref (ad 0 0))]) hx hb dX3_goOneNightOn_48 hl (k := 1) rfl (by decide) (by decide) rfl (fun ls hl => ?_)
        refine lv_goto (tgt := 22) hx hb dX3_goOneNightOn_51 (by decide) ?_
        have eR : up2 (rzR c k) 3 k 0 = rzR c (k + 1) := rzR_s
        have hX : PX E (rzR c (k + 1), niI c, c.B, c.Wr, c.sh) ly L ad H := by rw [← eR]; exact hX
        exact ih22 (k + 1) (by first | rfl | assumption | omega | (simp [c_30]; done) | (simp_all [c_30]; done)) (by omega) _ _ hX hS _ (lv_sub hl [1, 0] rfl)
  have eR : up2 c.R 0 0 ((c.R 0 0) + 1) = rzR c 0 := rzR_0
  have eI : up2 c.I 0 0 ((c.I 0 0) + (nI 5)) = niI c := rfl
  have hX : PX E (rzR c 0, niI c, c.B, c.Wr, c.sh) ly L ad H := by rw [← eR, ← eI]; exact hX
  exact lp22 (c.R 10 1 - 0 + 1) 0 (by first | rfl | assumption | omega | (simp []; done) | (simp_all []; done)) (Nat.lt_succ_self _) _ _ hX hS _ (lv_sub hl [1, 0] rfl)
