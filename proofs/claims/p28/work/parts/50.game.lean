/-! the game's state, as the law's checks need it -/
def GI (c : Cy) (g : Nat → Int32) (hs : Nat) (F : Nat → Int32) (t : Nat) : Prop :=
  (c.R 10 0 = 3 ∧ c.R 11 0 = 3) ∧ (c.R 10 1 = hs ∧ c.R 11 1 = hs) ∧ c.R 10 2 = c.R 11 2 ∧
  (∀ i, i < 3 → g i = nI (c.R 1 i)) ∧
  (∃ C : Nat, c.I 0 0 = nI C ∧ C ≤ 30 + 5 * c.R 0 0) ∧ c.R 0 0 ≤ 4 * t ∧
  (∀ h, h < hs → c.Wr h h = nI 0) ∧
  (∀ h, h < hs → c.I 11 h = F h) ∧
  (∀ h, h < hs → ∃ q : Nat, q ≤ c.R 10 2 ∧ c.I 13 h = nI q ∧ c.B 0 h = decide (0 < q)) ∧
  (∀ i k j, i < 3 → k < c.R 1 i → c.sh i k = some j → c.R 6 j = i ∧ c.R 7 j ≤ k ∧ k < c.R 7 j + c.R 8 j) ∧
  (∀ i, i < 3 → c.I 4 i = -1 ∨ ∃ q : Nat, q ≤ 3 ∧ c.I 4 i = nI q)
section GIA
variable {c c2 : Cy} {g : Nat → Int32} {hs t : Nat} {F F2 : Nat → Int32}
theorem GI.nw (h : GI c g hs F t) : c.R 10 0 = 3 := h.1.1
theorem GI.nw1 (h : GI c g hs F t) : c.R 11 0 = 3 := h.1.2
theorem GI.nh (h : GI c g hs F t) : c.R 10 1 = hs := h.2.1.1
theorem GI.nh1 (h : GI c g hs F t) : c.R 11 1 = hs := h.2.1.2
theorem GI.nl (h : GI c g hs F t) : c.R 10 2 = c.R 11 2 := h.2.2.1
theorem GI.wi (h : GI c g hs F t) {i : Nat} (hi : i < 3) : g i = nI (c.R 1 i) := h.2.2.2.1 i hi
theorem GI.co (h : GI c g hs F t) : ∃ C : Nat, c.I 0 0 = nI C ∧ C ≤ 30 + 5 * c.R 0 0 := h.2.2.2.2.1
theorem GI.ti (h : GI c g hs F t) : c.R 0 0 ≤ 4 * t := h.2.2.2.2.2.1
theorem GI.ow (h : GI c g hs F t) {z : Nat} (hz : z < hs) : c.Wr z z = nI 0 := h.2.2.2.2.2.2.1 z hz
theorem GI.fi (h : GI c g hs F t) {z : Nat} (hz : z < hs) : c.I 11 z = F z := h.2.2.2.2.2.2.2.1 z hz
theorem GI.ca (h : GI c g hs F t) {z : Nat} (hz : z < hs) : ∃ q : Nat, q ≤ c.R 10 2 ∧ c.I 13 z = nI q ∧ c.B 0 z = decide (0 < q) := h.2.2.2.2.2.2.2.2.1 z hz
theorem GI.se (h : GI c g hs F t) {i k j : Nat} (hi : i < 3) (hk : k < c.R 1 i) (e : c.sh i k = some j) : c.R 6 j = i ∧ c.R 7 j ≤ k ∧ k < c.R 7 j + c.R 8 j := h.2.2.2.2.2.2.2.2.2.1 i k j hi hk e
theorem GI.pe (h : GI c g hs F t) {i : Nat} (hi : i < 3) : c.I 4 i = -1 ∨ ∃ q : Nat, q ≤ 3 ∧ c.I 4 i = nI q := h.2.2.2.2.2.2.2.2.2.2 i hi
/-- the lists and sizes stay -/
theorem GI.to (h : GI c g hs F t) (hR : c2.R = c.R) (hC : ∃ C : Nat, c2.I 0 0 = nI C ∧ C ≤ 30 + 5 * c.R 0 0) (hW : c2.Wr = c.Wr) (hF : ∀ z, z < hs → c2.I 11 z = F2 z) (h13 : ∀ z, z < hs → c2.I 13 z = c.I 13 z) (hB : ∀ z, z < hs → c2.B 0 z = c.B 0 z) (hs2 : ∀ i k j, c2.sh i k = some j → c.sh i k = some j) (h4 : ∀ i, i < 3 → c2.I 4 i = -1 ∨ ∃ q : Nat, q ≤ 3 ∧ c2.I 4 i = nI q) : GI c2 g hs F2 (t + 1) := by
  unfold GI
  rw [hR, hW]
  refine ⟨⟨h.nw, h.nw1⟩, ⟨h.nh, h.nh1⟩, h.nl, fun i hi => h.wi hi, hC, by have := h.ti; omega, fun z hz => h.ow hz, hF, fun z hz => ?_, fun i k j hi hk e => h.se hi hk (hs2 i k j e), h4⟩
  rw [h13 z hz, hB z hz]
  exact h.ca hz
theorem GI.keep (h : GI c g hs F t) : GI c g hs F (t + 1) := h.to rfl h.co rfl (fun z hz => h.fi hz) (fun _ _ => rfl) (fun _ _ => rfl) (fun _ _ _ e => e) (fun i hi => h.pe hi)
/-! numbers -/
theorem nI_addc (a b : Nat) : nI a + nI b = nI (a + b) := nI_add a b
theorem cn_lt {C n : Nat} (hC : C ≤ 3000) (hn : n ≤ 3000) : nI C < nI n ↔ C < n := nI_ltI (by omega) (by omega)
theorem smI_cg {f g : Nat → Int32} : ∀ {n : Nat}, (∀ k, k < n → f k = g k) → smI f n = smI g n
  | 0, _ => rfl
  | n + 1, h => by
    show smI f n + f n = smI g n + g n
    rw [smI_cg (fun k hk => h k (by omega)), h n (by omega)]
theorem smI_up {f : Nat → Int32} {x : Nat} {v : Int32} : ∀ {n : Nat}, x < n → smI (fun k => if k = x then f x + v else f k) n = smI f n + v
  | n + 1, h => by
    show smI _ n + (if n = x then f x + v else f n) = smI f n + f n + v
    by_cases q : n = x
    · subst q
      rw [if_pos rfl, smI_cg (g := f) (fun k hk => if_neg (by omega)), Int32.add_assoc]
    · rw [if_neg q, smI_up (by omega), Int32.add_assoc, Int32.add_assoc, Int32.add_comm v]
theorem smI_add {f g : Nat → Int32} : ∀ n, smI (fun k => f k + g k) n = smI f n + smI g n
  | 0 => rfl
  | n + 1 => by
    show smI _ n + (f n + g n) = smI f n + f n + (smI g n + g n)
    rw [smI_add n, Int32.add_assoc, Int32.add_assoc, ← Int32.add_assoc (smI g n), Int32.add_comm (smI g n) (f n), Int32.add_assoc]
theorem smI_sw (f : Nat → Nat → Int32) (m : Nat) : ∀ n, smI (fun h => smI (f h) m) n = smI (fun k => smI (fun h => f h k) n) m
  | 0 => by
    show nI 0 = smI (fun _ => nI 0) m
    rw [smI_0]
  | n + 1 => by
    show smI _ n + smI (f n) m = smI (fun k => smI (fun h => f h k) n + f n k) m
    rw [smI_sw f m n, smI_add]
theorem cnt_0 {P : Nat → Bool} : ∀ {n : Nat}, (∀ k, k < n → P k = false) → cntN P n = 0
  | 0, _ => rfl
  | n + 1, h => by rw [cntN_f (h n (by omega))]; exact cnt_0 (fun k hk => h k (by omega))
theorem cnt_sp {P Q T : Nat → Bool} : ∀ {n : Nat}, (∀ k, k < n → (P k = true ↔ (Q k = true ∨ T k = true)) ∧ ¬ (Q k = true ∧ T k = true)) → cntN P n = cntN Q n + cntN T n
  | 0, _ => rfl
  | n + 1, h => by
    have ih := cnt_sp (P := P) (Q := Q) (T := T) (n := n) (fun k hk => h k (by omega))
    obtain ⟨h1, h2⟩ := h n (by omega)
    show cntN P n + _ = cntN Q n + _ + (cntN T n + _)
    rw [ih]
    cases hp : P n <;> cases hq : Q n <;> cases ht : T n <;> simp [hp, hq, ht] at h1 h2 ⊢ <;> omega
theorem cnt_one {n : Nat} {f w : Nat} (h : f + w ≤ n) : cntN (fun k => decide (f ≤ k ∧ k < f + w)) n = w := by
  have key : ∀ m, cntN (fun k => decide (f ≤ k ∧ k < f + w)) m = min (m - f) w := by
    intro m
    induction m with
    | zero => simp [cntN]
    | succ m ih =>
      show cntN _ m + _ = _
      rw [ih]
      by_cases q : f ≤ m ∧ m < f + w
      · rw [if_pos (by simp [q])]; omega
      · rw [if_neg (by simpa using q)]; omega
  rw [key]; omega
/-! buff -/
def buC (c : Cy) (i : Nat) : Cy := (c.R, up2 c.I 0 0 (c.I 0 0 - nI (ctbS c i)), c.B, c.Wr, mk1 c.sh i (c.R 1 i) (tbS c i))
def bfC (c : Cy) (i : Nat) : Cy := if c.I 0 0 < nI (ctbS c i) then c else buC c i
theorem bu_mul (i : Nat) : nI (ctbS c i) * c.I 2 i = eyS c i := Int32.mul_comm _ _
theorem ctb_le (wf : WF c) {i : Nat} (hi : i < c.R 11 0) : ctbS c i ≤ 16 := Nat.le_trans (cntN_le _ _) (wf.wd hi).2
theorem bu_coin (wf : WF c) (h : GI c g hs F t) {i : Nat} (hi : i < 3) (hc : ¬ c.I 0 0 < nI (ctbS c i)) : ∃ C : Nat, c.I 0 0 - nI (ctbS c i) = nI C ∧ C ≤ 30 + 5 * c.R 0 0 := by
  obtain ⟨C, e, hC⟩ := h.co
  have h1 := wf.nt
  have h2 := ctb_le wf (show i < c.R 11 0 by rw [h.nw1]; exact hi)
  rw [e] at hc ⊢
  rw [cn_lt (by omega) (by omega)] at hc
  exact ⟨C - ctbS c i, pk_sub (by omega), by omega⟩
theorem bu_GI (wf : WF c) (h : GI c g hs F t) {i : Nat} (hi : i < 3) (hc : ¬ c.I 0 0 < nI (ctbS c i)) : GI (buC c i) g hs F (t + 1) := by
  refine h.to rfl ?_ rfl (fun z hz => ?_) (fun z hz => rfl) (fun _ _ => rfl) (fun a k j e => ?_) (fun a ha => ?_)
  · obtain ⟨C, e1, e2⟩ := bu_coin wf h hi hc
    exact ⟨C, (show up2 c.I 0 0 (c.I 0 0 - nI (ctbS c i)) 0 0 = nI C from (up2_same c.I 0 0 _).trans e1), e2⟩
  · exact h.fi hz
  · have e : mk1 c.sh i (c.R 1 i) (tbS c i) a k = some j := e
    unfold mk1 at e
    split at e
    · cases e
    · exact e
  · exact h.pe ha
theorem bf_GI (wf : WF c) (h : GI c g hs F t) {i : Nat} (hi : i < 3) : GI (bfC c i) g hs F (t + 1) := by
  unfold bfC
  split
  · exact h.keep
  · next q => exact bu_GI wf h hi q
theorem bu_ref (wf : WF c) (h : GI c g hs F t) {i : Nat} (hi : i < 3) (hc : c.I 0 0 < nI (ctbS c i)) : c.I 0 0 * c.I 2 i < eyS c i := by
  obtain ⟨C, e, hC⟩ := h.co
  have h1 := wf.nt
  have hi2 : i < c.R 11 0 := by rw [h.nw1]; exact hi
  have h2 := ctb_le wf hi2
  obtain ⟨q, q1, q9, hq⟩ := wf.sg hi2
  unfold eyS
  rw [e] at hc ⊢
  rw [cn_lt (by omega) (by omega)] at hc
  rw [hq, pk_mul, pk_mul]
  have e1 : C * q ≤ 16 * 9 := Nat.mul_le_mul (by omega) q9
  have e2 : q * ctbS c i ≤ 9 * 16 := Nat.mul_le_mul q9 h2
  refine (nI_ltI (by omega) (by omega)).mpr ?_
  rw [Nat.mul_comm q]
  exact Nat.mul_lt_mul_of_pos_right hc (by omega)
theorem bu_n {i k : Nat} (e : c.sh i k = none) : shI (buC c i) i k = -1 := by
  apply shI_n
  show mk1 c.sh i (c.R 1 i) (tbS c i) i k = none
  unfold mk1
  split
  · rfl
  · exact e
theorem bu_t {i k : Nat} (hk : k < c.R 1 i) (e : tbS c i k = true) : shI (buC c i) i k = -1 := by
  apply shI_n
  show mk1 c.sh i (c.R 1 i) (tbS c i) i k = none
  exact if_pos ⟨rfl, hk, e⟩
theorem bu_f {i k j : Nat} (h : c.sh i k = some j) (e : tbS c i k = false) : shI (buC c i) i k = nI j := by
  apply shI_s
  show mk1 c.sh i (c.R 1 i) (tbS c i) i k = some j
  exact (if_neg (fun z => by rw [e] at z; exact absurd z.2.2 (by decide))).trans h
theorem bu_b {i k j : Nat} (hk : k < c.R 1 i) (e : c.sh i k = some j) (hb : c.B 1 j = false) : shI (buC c i) i k = -1 := bu_t hk (tb_s e (by rw [hb]; rfl))
theorem bu_c {i k j : Nat} (hk : k < c.R 1 i) (e : c.sh i k = some j) (hb : ¬ c.I 8 (c.R 5 j) = pcS c i (nI (c.R 0 0))) : shI (buC c i) i k = -1 := by
  refine bu_t hk (tb_s e ?_)
  have : permS c (c.R 5 j) i = false := decide_eq_false (fun z => hb z.symm)
  rw [this]; simp
theorem bu_l {i k j : Nat} (e : c.sh i k = some j) (hb : c.B 1 j = true) (hp : c.I 8 (c.R 5 j) = pcS c i (nI (c.R 0 0))) : shI (buC c i) i k = nI j := by
  refine bu_f e (tb_f e ?_)
  have : permS c (c.R 5 j) i = true := decide_eq_true hp.symm
  rw [this, hb]; rfl
/-! permit, watch, remember -/
theorem pm_GI (h : GI c g hs F t) {i a : Nat} (ha : a ≤ 3) (b : Int32) : GI ((c.R, pmI c i (nI a) b, c.B, c.Wr, c.sh) : Cy) g hs F (t + 1) := by
  refine h.to rfl h.co rfl (fun z hz => h.fi hz) (fun z hz => rfl) (fun _ _ => rfl) (fun a k j e => e) (fun z hz => ?_)
  show up2 (up2 c.I 4 i (nI a)) 5 i b 4 z = -1 ∨ ∃ q : Nat, q ≤ 3 ∧ up2 (up2 c.I 4 i (nI a)) 5 i b 4 z = nI q
  rw [up2_a _ _ (by omega)]
  by_cases q : z = i
  · subst q; exact Or.inr ⟨a, ha, up2_same _ _ _ _⟩
  · rw [up2_ne _ _ (fun w => q w.2)]; exact h.pe hz
theorem pm_pc {i a b : Nat} (hb : c.R 0 0 ≤ b) (hb2 : b ≤ 1000) : pcS ((c.R, pmI c i (nI a) (nI b), c.B, c.Wr, c.sh) : Cy) i (nI (c.R 0 0)) = nI a := by
  have e5 : (pmI c i (nI a) (nI b)) 5 i = nI b := up2_same _ _ _ _
  have e4 : (pmI c i (nI a) (nI b)) 4 i = nI a := (up2_a _ _ (by omega)).trans (up2_same _ _ _ _)
  show (if (pmI c i (nI a) (nI b)) 5 i < nI (c.R 0 0) then (-1 : Int32) else (pmI c i (nI a) (nI b)) 4 i) = _
  rw [e5, e4, if_neg (nI_nlt hb (by omega))]
theorem pc_ge (h : GI c g hs F t) {i : Nat} (hi : i < 3) (x : Int32) : ¬ pcS c i x < -1 := by
  unfold pcS
  split
  · decide
  · rcases h.pe hi with e | ⟨q, hq, e⟩
    · rw [e]; decide
    · rw [e, Int32.lt_iff_toInt_lt, nI_toInt (by omega)]
      have : (-1 : Int32).toInt = -1 := by decide
      omega
theorem wa_GI (h : GI c g hs F t) (i a b : Nat) : GI ((c.R, waI c i a b, c.B, c.Wr, c.sh) : Cy) g hs F (t + 1) :=
  h.to rfl h.co rfl (fun z hz => h.fi hz) (fun z hz => rfl) (fun _ _ => rfl) (fun a k j e => e) (fun z hz => h.pe hz)
theorem re_GI (h : GI c g hs F t) (j : Nat) : GI ((c.R, c.I, up2 c.B 3 j true, c.Wr, c.sh) : Cy) g hs F (t + 1) :=
  h.to rfl h.co rfl (fun z hz => h.fi hz) (fun z hz => rfl) (fun _ _ => rfl) (fun a k j e => e) (fun z hz => h.pe hz)
theorem pa_GI (h : GI c g hs F t) (x : Nat) : GI ((c.R, up2 c.I 11 x (nI 0), c.B, c.Wr, c.sh) : Cy) g hs (upd F x (nI 0)) (t + 1) := by
  refine h.to rfl h.co rfl (fun z hz => ?_) (fun z hz => rfl) (fun _ _ => rfl) (fun a k j e => e) (fun z hz => h.pe hz)
  show up2 c.I 11 x (nI 0) 11 z = upd F x (nI 0) z
  unfold upd
  by_cases q : z = x
  · subst q; rw [if_pos rfl]; exact up2_same _ _ _ _
  · rw [if_neg q, up2_ne _ _ (fun w => q w.2)]; exact h.fi hz
/-! clear -/
def clC (c : Cy) (i : Nat) : Cy := (c.R, clI c i (c.R 1 i), c.B, c.Wr, mk1 c.sh i (c.R 1 i) (fun _ => true))
theorem clI_o {i a z : Nat} (ha : a ≠ 14) : ∀ k, clI c i k a z = c.I a z
  | 0 => rfl
  | k + 1 => by
    cases q : c.sh i k with
    | none => rw [← clI_n q]; exact clI_o ha k
    | some j =>
      cases e : hrS c j
      · rw [← clI_f q e]; exact clI_o ha k
      · rw [← clI_t q e, up2_a _ _ ha]; exact clI_o ha k
theorem cl_sum (wf : WF c) {i n : Nat} (hi : i < c.R 11 0) (hn : c.R 11 1 = n) : ∀ k, k ≤ c.R 1 i → smI (clI c i k 14) n = smI (c.I 14) n + clT c i k
  | 0, _ => by
    show smI (c.I 14) n = smI (c.I 14) n + nI 0
    exact (Int32.add_zero _).symm
  | k + 1, hk => by
    have ih := cl_sum wf hi hn k (by omega)
    cases q : c.sh i k with
    | none => rw [← clI_n q, ← clT_n q]; exact ih
    | some j =>
      cases e : hrS c j
      · rw [← clI_f q e, ← clT_f q e]; exact ih
      · rw [← clI_t q e, ← clT_t q e, ← Int32.add_assoc, ← ih]
        have hj := wf.sj hi (show k < c.R 1 i by omega) q
        have hx := wf.lh hj
        rw [← smI_up (f := clI c i k 14) (x := c.R 5 j) (by omega)]
        refine smI_cg fun z _ => ?_
        show (if 14 = 14 ∧ z = c.R 5 j then _ else _) = _
        by_cases w : z = c.R 5 j
        · rw [if_pos ⟨rfl, w⟩, if_pos w]
        · rw [if_neg (fun v => w v.2), if_neg w]
theorem cl_GI (h : GI c g hs F t) (i : Nat) : GI (clC c i) g hs F (t + 1) := by
  refine h.to rfl ?_ rfl (fun z hz => ?_) (fun z hz => clI_o (by omega) _) (fun _ _ => rfl) (fun a k j e => ?_) (fun a ha => ?_)
  · have e : (clC c i).I 0 0 = c.I 0 0 := clI_o (by omega) _
    rw [e]; exact h.co
  · exact (clI_o (c := c) (by omega) _).trans (h.fi hz)
  · have e : mk1 c.sh i (c.R 1 i) (fun _ => true) a k = some j := e
    unfold mk1 at e
    split at e
    · cases e
    · exact e
  · have e : (clC c i).I 4 a = c.I 4 a := clI_o (by omega) _
    rw [e]; exact h.pe ha
theorem cl_p (i : Nat) : cntN (pntB (clC c i) i) (c.R 1 i) = 0 := cnt_0 fun k hk => by
  have e : (clC c i).sh i k = none := if_pos ⟨rfl, hk, rfl⟩
  unfold pntB
  rw [e]; rfl
/-! sell -/
def seC (c : Cy) (j : Nat) : Cy := (c.R, up2 c.I 1 0 (c.I 1 0 + prS c j), c.B, c.Wr, mk1 c.sh (c.R 6 j) (c.R 1 (c.R 6 j)) (shwB c (c.R 6 j) j))
theorem se_GI (h : GI c g hs F t) (j : Nat) : GI (seC c j) g hs F (t + 1) := by
  refine h.to rfl h.co rfl (fun z hz => h.fi hz) (fun z hz => rfl) (fun _ _ => rfl) (fun a k z e => ?_) (fun a ha => h.pe ha)
  have e : mk1 c.sh (c.R 6 j) (c.R 1 (c.R 6 j)) (shwB c (c.R 6 j) j) a k = some z := e
  unfold mk1 at e
  split at e
  · cases e
  · exact e
theorem se_at {j k : Nat} (hk : k < c.R 1 (c.R 6 j)) : (seC c j).sh (c.R 6 j) k = if c.sh (c.R 6 j) k = some j then none else c.sh (c.R 6 j) k := by
  show mk1 c.sh (c.R 6 j) (c.R 1 (c.R 6 j)) (shwB c (c.R 6 j) j) (c.R 6 j) k = _
  unfold mk1 shwB
  by_cases q : c.sh (c.R 6 j) k = some j
  · rw [if_pos q, if_pos ⟨rfl, hk, decide_eq_true q⟩]
  · rw [if_neg q, if_neg (fun z => q (of_decide_eq_true z.2.2))]
theorem se_0 (j : Nat) : seenS (seC c j) j = 0 := cnt_0 fun k hk => by
  have e := se_at (c := c) (j := j) (k := k) hk
  show decide ((seC c j).sh (c.R 6 j) k = some j) = false
  rw [e]
  split
  · rfl
  · next q => exact decide_eq_false q
theorem se_p (j : Nat) : cntN (pntB (seC c j) (c.R 6 j)) (c.R 1 (c.R 6 j)) + seenS c j = cntN (pntB c (c.R 6 j)) (c.R 1 (c.R 6 j)) := by
  refine (cnt_sp fun k hk => ?_).symm
  have e := se_at (c := c) (j := j) (k := k) hk
  show (((c.sh (c.R 6 j) k).isSome = true) ↔ (((seC c j).sh (c.R 6 j) k).isSome = true ∨ decide (c.sh (c.R 6 j) k = some j) = true)) ∧ ¬ (((seC c j).sh (c.R 6 j) k).isSome = true ∧ decide (c.sh (c.R 6 j) k = some j) = true)
  rw [e]
  by_cases q : c.sh (c.R 6 j) k = some j
  · rw [if_pos q, q]; simp
  · rw [if_neg q]; simp [q]
theorem se_pI (wf : WF c) {j : Nat} (hj : j < c.R 11 2) : nI (cntN (pntB (seC c j) (c.R 6 j)) (c.R 1 (c.R 6 j))) = nI (cntN (pntB c (c.R 6 j)) (c.R 1 (c.R 6 j))) - nI (seenS c j) := by
  rw [← se_p j, pk_sub (by omega)]
  congr 1
  omega
end GIA
