/-! what is seen, and the end -/
section GIC
variable {c c2 : Cy} {g : Nat → Int32} {hs t : Nat} {F F2 : Nat → Int32}
/-- fame up to the cell k of wall w -/
def faP (c : Cy) (h w k : Nat) : Int32 := smI (fun i => wfS c i h) w + smI (fun q => faS c w q h) k
theorem faP_0 {h : Nat} : faP c h 0 0 = nI 0 := rfl
theorem faP_w {h w : Nat} : faP c h w (c.R 1 w) = faP c h (w + 1) 0 := by
  show smI _ w + wfS c w h = smI _ w + wfS c w h + nI 0
  exact (Int32.add_zero _).symm
theorem faP_n {h w k : Nat} (e : c.sh w k = none) : faP c h w (k + 1) = faP c h w k := by
  show smI _ w + (smI _ k + faS c w k h) = _
  have : faS c w k h = nI 0 := by unfold faS; rw [e]
  rw [this, show smI (fun q => faS c w q h) k + nI 0 = smI (fun q => faS c w q h) k from Int32.add_zero _]; rfl
theorem faP_s {h w k j : Nat} (e : c.sh w k = some j) : faP c h w (k + 1) = if h = c.R 5 j then faP c h w k + c.I 2 w * wtf (c.R 9 j) else faP c h w k := by
  show smI _ w + (smI _ k + faS c w k h) = _
  rw [← Int32.add_assoc]
  show faP c h w k + faS c w k h = _
  have : faS c w k h = if c.R 5 j = h then c.I 2 w * wtf (c.R 9 j) else nI 0 := by unfold faS; rw [e]
  rw [this]
  by_cases q : c.R 5 j = h
  · rw [if_pos q, if_pos q.symm]
  · rw [if_neg q, if_neg (fun z => q z.symm)]; exact Int32.add_zero _
theorem faP_e (h3 : c.R 10 0 = 3) {h : Nat} : faP c h 3 0 = fmS c h := by
  unfold fmS
  rw [h3]
  exact Int32.add_zero _
theorem fm_st {fm : Nat → Int32} {w k j hs : Nat} (h : ∀ z, z < hs → fm z = faP c z w k) (e : c.sh w k = some j) (hj : c.R 5 j < hs) : ∀ z, z < hs → upd fm (c.R 5 j) (fm (c.R 5 j) + c.I 2 w * wtf (c.R 9 j)) z = faP c z w (k + 1) := by
  intro z hz
  rw [faP_s e]
  unfold upd
  by_cases q : z = c.R 5 j
  · rw [if_pos q, if_pos q, h _ hj, q]
  · rw [if_neg q, if_neg q]; exact h z hz
theorem fm_no {fm : Nat → Int32} {w k hs : Nat} (h : ∀ z, z < hs → fm z = faP c z w k) (e : c.sh w k = none) : ∀ z, z < hs → fm z = faP c z w (k + 1) := fun z hz => by rw [faP_n e]; exact h z hz
theorem fm_w {fm : Nat → Int32} {w k hs : Nat} (h : ∀ z, z < hs → fm z = faP c z w k) (e : k = c.R 1 w) : ∀ z, z < hs → fm z = faP c z (w + 1) 0 := fun z hz => by rw [← faP_w, ← e]; exact h z hz
theorem wt_3 {kd : Nat} (h : kd = 3) : nI 7 = wtf kd := by subst h; decide
theorem wt_s {kd : Nat} (h : kd < 4) (h3 : ¬ kd = 3) : nI 1 <<< (nI kd &&& 31) = wtf kd := by
  have : kd = 0 ∨ kd = 1 ∨ kd = 2 := by omega
  rcases this with rfl | rfl | rfl <;> decide
/-- painted cells up to the cell k of wall w -/
def ceP (c : Cy) (w k : Nat) : Nat := smN (fun i => cntN (pntB c i) (c.R 1 i)) w + cntN (pntB c w) k
theorem ceP_w {w : Nat} : ceP c w (c.R 1 w) = ceP c (w + 1) 0 := rfl
theorem ceP_n {w k : Nat} (e : c.sh w k = none) : ceP c w (k + 1) = ceP c w k := by
  unfold ceP
  rw [cntN_f (by unfold pntB; rw [e]; rfl)]
theorem ceP_s {w k j : Nat} (e : c.sh w k = some j) : ceP c w (k + 1) = ceP c w k + 1 := by
  unfold ceP
  rw [cntN_t (by unfold pntB; rw [e]; rfl)]; omega
theorem ceP_e : ceP c 3 0 = toS c := by
  show 0 + cntN (pntB c 0) (c.R 1 0) + cntN (pntB c 1) (c.R 1 1) + cntN (pntB c 2) (c.R 1 2) + 0 = toS c
  unfold toS; omega
theorem ceP_le (wf : WF c) (h3 : c.R 11 0 = 3) {w k : Nat} (hw : w < 3) (hk : k ≤ c.R 1 w) : ceP c w k ≤ 64 := by
  have h0 := (wf.wd (i := 0) (by omega)).2
  have h1 := (wf.wd (i := 1) (by omega)).2
  have h2 := (wf.wd (i := 2) (by omega)).2
  have a0 := cntN_le (pntB c 0) (c.R 1 0)
  have a1 := cntN_le (pntB c 1) (c.R 1 1)
  have ak := cntN_le (pntB c w) k
  have hk2 : k ≤ 16 := Nat.le_trans hk (wf.wd (by omega)).2
  unfold ceP
  match w, hw with
  | 0, _ => show 0 + cntN (pntB c 0) k ≤ 64; omega
  | 1, _ => show 0 + cntN (pntB c 0) (c.R 1 0) + cntN (pntB c 1) k ≤ 64; omega
  | 2, _ => show 0 + cntN (pntB c 0) (c.R 1 0) + cntN (pntB c 1) (c.R 1 1) + cntN (pntB c 2) k ≤ 64; omega
/-- wrongs done and suffered -/
theorem did_had (wf : WF c) (hn : c.R 11 1 = hs) : smI (fun h => smI (c.Wr h) 8) hs = smI (fun k => smI (fun h => c.Wr h k) hs) hs := by
  refine Eq.trans (smI_cg fun h hh => ?_) (smI_sw c.Wr hs hs)
  have h8 : hs ≤ 8 := by rw [← hn]; exact wf.nh
  have := smI_z (f := c.Wr h) (m := hs) (fun k hk => wf.w0 (by omega) (by omega)) (8 - hs)
  rw [show hs + (8 - hs) = 8 by omega] at this
  exact this
theorem kn_ca {q : Nat} {b : Bool} {x : Int32} (hq : q ≤ 1000) (h1 : x = nI q) (h2 : b = decide (0 < q)) : (bI b = nI 1 ↔ 0 < x) := by
  subst h1; subst h2
  by_cases w : 0 < q
  · rw [decide_eq_true w]
    exact ⟨fun _ => (by rw [Int32.lt_iff_toInt_lt, nI_toInt (by omega)]; have : (0 : Int32).toInt = 0 := (by decide); omega), fun _ => rfl⟩
  · have : q = 0 := by omega
    subst this
    exact ⟨fun z => absurd z (by decide), fun z => absurd z (by decide)⟩
/-! the end -/
theorem bfO_some {h i w kd : Nat} : ∀ {n : Nat}, 0 < n → ∃ b, bfO c h i w kd n = some b
  | n + 1, _ => by
    unfold bfO
    cases bfO c h i w kd n with
    | none => exact ⟨n, rfl⟩
    | some b =>
      simp only
      split
      · exact ⟨n, rfl⟩
      · exact ⟨b, rfl⟩
theorem bfO_min {h i w kd : Nat} : ∀ {n b : Nat}, bfO c h i w kd n = some b → ∀ x, x < n → cwrS c h i b w kd ≤ cwrS c h i x w kd
  | 0, b, e => by cases e
  | n + 1, b, e => by
    intro x hx
    unfold bfO at e
    cases q : bfO c h i w kd n with
    | none =>
      rw [q] at e
      simp only at e
      have hb := Option.some.inj e
      have : n = 0 := by
        refine Nat.eq_zero_of_not_pos fun z => ?_
        obtain ⟨y, hy⟩ := bfO_some (c := c) (h := h) (i := i) (w := w) (kd := kd) z
        rw [q] at hy; cases hy
      rw [show x = b by omega]; exact Nat.le_refl _
    | some y =>
      rw [q] at e
      simp only at e
      have ih := bfO_min q
      split at e
      · next z =>
        have hb := Option.some.inj e
        rw [← hb]
        by_cases w1 : x = n
        · rw [w1]; exact Nat.le_refl _
        · have := ih x (by omega)
          rcases z with z | z <;> omega
      · next z =>
        have hb := Option.some.inj e
        rw [← hb]
        by_cases w1 : x = n
        · rw [w1]
          refine Nat.le_of_not_lt fun v => z (Or.inl v)
        · exact ih x (by omega)
theorem bf_best (wf : WF c) (h3 : c.R 11 0 = 3) : ∃ b, b + 3 ≤ c.R 1 0 ∧ bfS c 0 0 3 1 = nI b ∧ ∀ x, x + 3 ≤ c.R 1 0 → cwrS c 0 0 b 3 1 ≤ cwrS c 0 0 x 3 1 := by
  have hw := wf.wd (i := 0) (by omega)
  obtain ⟨b, e⟩ := bfO_some (c := c) (h := 0) (i := 0) (w := 3) (kd := 1) (n := c.R 1 0 + 1 - 3) (by omega)
  have hb := bfO_lt e
  refine ⟨b, by omega, ?_, fun x hx => bfO_min e x (by omega)⟩
  unfold bfS
  rw [e]; rfl
theorem nbF_p : ∀ n, ((nbF c n).1 = -1 ∧ (nbF c n).2 = nI 0 ∨ ∃ x, x < n ∧ (nbF c n).1 = nI x ∧ (nbF c n).2 = eyS c x) ∧ ∀ z, z < n → ¬ c.I 0 0 < nI (ctbS c z) → ¬ (nbF c n).2 < eyS c z
  | 0 => ⟨Or.inl ⟨rfl, rfl⟩, fun z hz => absurd hz (Nat.not_lt_zero z)⟩
  | n + 1 => by
    obtain ⟨h1, h2⟩ := nbF_p n
    by_cases q : ¬ c.I 0 0 < nI (ctbS c n) ∧ (nbF c n).2 < eyS c n
    · have e : nbF c (n + 1) = (nI n, eyS c n) := if_pos q
      rw [e]
      refine ⟨Or.inr ⟨n, by omega, rfl, rfl⟩, fun z hz hc => ?_⟩
      by_cases w : z = n
      · subst w; exact Int32.lt_irrefl
      · have := h2 z (by omega) hc
        intro v
        exact this (Int32.lt_trans q.2 v)
    · have e : nbF c (n + 1) = nbF c n := if_neg q
      rw [e]
      refine ⟨h1.elim Or.inl (fun ⟨x, a, b⟩ => Or.inr ⟨x, by omega, b⟩), fun z hz hc => ?_⟩
      by_cases w : z = n
      · subst w; exact fun v => q ⟨hc, v⟩
      · exact h2 z (by omega) hc
theorem ey_div (wf : WF c) (h3 : c.R 11 0 = 3) {z : Nat} (hz : z < 3) : ∃ q : Nat, 1 ≤ q ∧ q ≤ 9 ∧ c.I 2 z = nI q ∧ eyS c z = nI (q * ctbS c z) ∧ nI (q * ctbS c z) / nI q = nI (ctbS c z) := by
  have hz2 : z < c.R 11 0 := by omega
  obtain ⟨q, q1, q9, hq⟩ := wf.sg hz2
  have h16 := ctb_le wf hz2
  have hm : q * ctbS c z ≤ 9 * 16 := Nat.mul_le_mul q9 h16
  refine ⟨q, q1, q9, hq, ?_, ?_⟩
  · unfold eyS; rw [hq, pk_mul]
  · rw [pk_div (by omega) (by omega) (by omega), Nat.mul_div_cancel_left _ (by omega)]
theorem wf_N {i h q : Nat} (hq : c.I 2 i = nI q) : ∀ n, smI (fun k => faS c i k h) n = nI (smN (fun k => q * gaN c i k h) n)
  | 0 => rfl
  | n + 1 => by
    show smI _ n + faS c i n h = nI (smN _ n + q * gaN c i n h)
    rw [wf_N hq n, faS_N hq, nI_add]
theorem smN_le {f : Nat → Nat} {m : Nat} (h : ∀ k, f k ≤ m) : ∀ n, smN f n ≤ n * m
  | 0 => Nat.zero_le _
  | n + 1 => by
    have := smN_le h n
    have := h n
    show smN f n + f n ≤ (n + 1) * m
    rw [Nat.succ_mul]; omega
theorem wfS_N (wf : WF c) {i : Nat} (hi : i < c.R 11 0) (h : Nat) : ∃ v : Nat, v ≤ 1008 ∧ wfS c i h = nI v := by
  obtain ⟨q, q1, q9, hq⟩ := wf.sg hi
  refine ⟨smN (fun k => q * gaN c i k h) (c.R 1 i), ?_, wf_N hq _⟩
  have h1 := smN_le (f := fun k => q * gaN c i k h) (m := 63) (fun k => Nat.le_trans (Nat.mul_le_mul q9 (gaN_le c i k h)) (by omega)) (c.R 1 i)
  have h2 := (wf.wd hi).2
  have : c.R 1 i * 63 ≤ 16 * 63 := Nat.mul_le_mul_right _ h2
  omega
theorem wbf_0 (h : Nat) : wbfS c h 0 = fmS c h := smI_cg fun i _ => if_neg (fun z => by cases z)
theorem wbf_le (wf : WF c) (h3 : c.R 10 0 = 3) (h31 : c.R 11 0 = 3) (h n : Nat) : ¬ fmS c h < wbfS c h n := by
  obtain ⟨v0, l0, e0⟩ := wfS_N wf (i := 0) (by omega) h
  obtain ⟨v1, l1, e1⟩ := wfS_N wf (i := 1) (by omega) h
  obtain ⟨v2, l2, e2⟩ := wfS_N wf (i := 2) (by omega) h
  have a1 : fmS c h = nI (v0 + v1 + v2) := by
    unfold fmS
    rw [h3]
    show nI 0 + wfS c 0 h + wfS c 1 h + wfS c 2 h = _
    rw [e0, e1, e2, nI_add, nI_add, nI_add, Nat.zero_add]
  have key : ∀ (b : Bool) (v : Nat), ∃ u : Nat, u ≤ v ∧ (if b = true then nI 0 else nI v) = nI u := fun b v => by
    cases b
    · exact ⟨v, Nat.le_refl _, rfl⟩
    · exact ⟨0, Nat.zero_le _, rfl⟩
  obtain ⟨u0, k0, g0⟩ := key (wbcS c 0 n) v0
  obtain ⟨u1, k1, g1⟩ := key (wbcS c 1 n) v1
  obtain ⟨u2, k2, g2⟩ := key (wbcS c 2 n) v2
  have a2 : wbfS c h n = nI (u0 + u1 + u2) := by
    unfold wbfS
    rw [h3]
    show nI 0 + (if wbcS c 0 n = true then nI 0 else wfS c 0 h) + (if wbcS c 1 n = true then nI 0 else wfS c 1 h) + (if wbcS c 2 n = true then nI 0 else wfS c 2 h) = _
    rw [e0, e1, e2, g0, g1, g2, nI_add, nI_add, nI_add, Nat.zero_add]
  rw [a1, a2]
  exact nI_nlt (by omega) (by omega)
end GIC
