/-! the best place -/
def bfO (c : Cy) (h i w kd : Nat) : Nat → Option Nat
  | 0 => none
  | n + 1 => match bfO c h i w kd n with
    | none => some n
    | some b => if cwrS c h i n w kd < cwrS c h i b w kd ∨ (cwrS c h i n w kd = cwrS c h i b w kd ∧ gmS c h i b w kd < gmS c h i n w kd) then some n else some b
def bfS (c : Cy) (h i w kd : Nat) : Int32 := oI (bfO c h i w kd (c.R 1 i + 1 - w))
theorem bfO_lt {c : Cy} {h i w kd : Nat} : ∀ {n b : Nat}, bfO c h i w kd n = some b → b < n
  | 0, b, e => by cases e
  | n + 1, b, e => by
    unfold bfO at e
    cases q : bfO c h i w kd n with
    | none => rw [q] at e; simp only at e; rw [← Option.some.inj e]; omega
    | some x =>
      rw [q] at e
      have := bfO_lt q
      simp only at e
      split at e <;> (rw [← Option.some.inj e]; omega)
/-- weights, as numbers -/
def wtN (j : Nat) : Nat := if j = 0 then 1 else if j = 1 then 2 else if j = 2 then 4 else 7
theorem wtf_N (j : Nat) : wtf j = nI (wtN j) := by
  unfold wtf wtN
  split
  · rfl
  · split
    · rfl
    · split <;> rfl
theorem wtN_le (j : Nat) : 1 ≤ wtN j ∧ wtN j ≤ 7 := by
  unfold wtN
  split
  · omega
  · split
    · omega
    · split <;> omega
def smZ (g : Nat → Int) : Nat → Int
  | 0 => 0
  | n + 1 => smZ g n + g n
def gaN (c : Cy) (i k h : Nat) : Nat := match c.sh i k with
  | none => 0
  | some j => if c.R 5 j = h then wtN (c.R 9 j) else 0
theorem gaN_le (c : Cy) (i k h : Nat) : gaN c i k h ≤ 7 := by
  unfold gaN
  split
  · omega
  · split
    · exact (wtN_le _).2
    · omega
theorem gaS_N (c : Cy) (i k h : Nat) : gaS c i k h = nI (gaN c i k h) := by
  unfold gaS gaN
  cases c.sh i k with
  | none => rfl
  | some j =>
    by_cases q : c.R 5 j = h
    · simp only [if_pos q]; exact wtf_N _
    · simp only [if_neg q]
theorem faS_N {c : Cy} {i q : Nat} (hq : c.I 2 i = nI q) (k h : Nat) : faS c i k h = nI (q * gaN c i k h) := by
  unfold faS gaN
  cases c.sh i k with
  | none => rfl
  | some j =>
    by_cases z : c.R 5 j = h
    · simp only [if_pos z]; rw [hq, wtf_N, pk_mul]
    · simp only [if_neg z]; rfl
/-- an int that is the integer z -/
def isZ (x : Int32) (z : Int) : Prop := x.toInt = z
theorem isZ_add {x y : Int32} {a b : Int} (h1 : isZ x a) (h2 : isZ y b) (h : -2147483648 ≤ a + b ∧ a + b ≤ 2147483647) : isZ (x + y) (a + b) := by
  unfold isZ at *
  rw [Int32.toInt_add, h1, h2]
  exact Int.bmod_eq_of_le (by omega) (by omega)
theorem isZ_sub {x y : Int32} {a b : Int} (h1 : isZ x a) (h2 : isZ y b) (h : -2147483648 ≤ a - b ∧ a - b ≤ 2147483647) : isZ (x - y) (a - b) := by
  unfold isZ at *
  rw [Int32.toInt_sub, h1, h2]
  exact Int.bmod_eq_of_le (by omega) (by omega)
theorem isZ_n {n : Nat} (h : n < 2 ^ 31) : isZ (nI n) (n : Int) := nI_toInt h
theorem isZ_lt {x y : Int32} {a b : Int} (h1 : isZ x a) (h2 : isZ y b) : x < y ↔ a < b := by rw [Int32.lt_iff_toInt_lt, h1, h2]
theorem smZ_b {g : Nat → Int} {m : Int} (h : ∀ k, -m ≤ g k ∧ g k ≤ m) : ∀ n : Nat, -(m * n) ≤ smZ g n ∧ smZ g n ≤ m * n
  | 0 => by simp [smZ]
  | n + 1 => by
    have h1 := smZ_b h n
    have h2 := h n
    have e : m * ((n + 1 : Nat) : Int) = m * n + m := by rw [Int.natCast_succ, Int.mul_add, Int.mul_one]
    unfold smZ
    rw [e]
    omega
theorem smI_Z {f : Nat → Int32} {g : Nat → Int} {m : Int} (hf : ∀ k, isZ (f k) (g k)) (hg : ∀ k, -m ≤ g k ∧ g k ≤ m) (hm : 0 ≤ m ∧ m ≤ 1000) : ∀ n : Nat, n ≤ 1000 → isZ (smI f n) (smZ g n)
  | 0, _ => isZ_n (n := 0) (by decide)
  | n + 1, hn => by
    have h1 := smI_Z hf hg hm n (by omega)
    have h2 := smZ_b hg n
    have h3 := hg n
    have h4 : m * (n : Int) ≤ 1000 * 1000 := Int.mul_le_mul hm.2 (by omega) (by omega) (by omega)
    exact isZ_add h1 (hf n) (by omega)
theorem smZ_mul (g : Nat → Int) (q : Int) : ∀ n, smZ (fun k => q * g k) n = q * smZ g n
  | 0 => by simp [smZ]
  | n + 1 => by
    show smZ (fun k => q * g k) n + q * g n = q * (smZ g n + g n)
    rw [smZ_mul g q n, Int.mul_add]
/-- the class's gain is the reference's, times sight -/
theorem gain_lt {c : Cy} (wf : WF c) {h i f1 f2 w kd : Nat} (hi : i < c.R 11 0) (hw : w ≤ 16) : fgS c h i f1 w kd < fgS c h i f2 w kd ↔ gmS c h i f1 w kd < gmS c h i f2 w kd := by
  obtain ⟨q, q1, q9, hq⟩ := wf.sg hi
  have hk := wtN_le kd
  have key : ∀ f, isZ (gmS c h i f w kd) (smZ (fun x => (wtN kd : Int) - gaN c i (f + x) h) w) ∧ isZ (fgS c h i f w kd) ((q : Int) * smZ (fun x => (wtN kd : Int) - gaN c i (f + x) h) w) := by
    intro f
    have hb : ∀ x : Nat, -(7 : Int) ≤ (wtN kd : Int) - gaN c i (f + x) h ∧ (wtN kd : Int) - gaN c i (f + x) h ≤ 7 := fun x => by
      have := gaN_le c i (f + x) h
      omega
    constructor
    · unfold gmS
      refine smI_Z (m := 7) (fun x => ?_) hb (by omega) w (by omega)
      rw [wtf_N, gaS_N]
      have := gaN_le c i (f + x) h
      exact isZ_sub (isZ_n (by omega)) (isZ_n (by omega)) (by omega)
    · unfold fgS
      rw [← smZ_mul]
      refine smI_Z (m := 63) (fun x => ?_) (fun x => ?_) (by omega) w (by omega)
      · have h7 := gaN_le c i (f + x) h
        have m1 : q * wtN kd ≤ 9 * 7 := Nat.mul_le_mul q9 hk.2
        have m2 : q * gaN c i (f + x) h ≤ 9 * 7 := Nat.mul_le_mul q9 h7
        rw [faS_N hq, hq, wtf_N, pk_mul]
        have e := isZ_sub (isZ_n (n := q * wtN kd) (by omega)) (isZ_n (n := q * gaN c i (f + x) h) (by omega)) (by omega)
        rw [Int.mul_sub]
        exact_mod_cast e
      · have h7 := gaN_le c i (f + x) h
        have b := hb x
        have m1 : q * wtN kd ≤ 9 * 7 := Nat.mul_le_mul q9 hk.2
        have m2 : q * gaN c i (f + x) h ≤ 9 * 7 := Nat.mul_le_mul q9 h7
        have m1' : (q : Int) * (wtN kd : Int) ≤ 63 := by exact_mod_cast m1
        have m2' : (q : Int) * (gaN c i (f + x) h : Int) ≤ 63 := by exact_mod_cast m2
        have m3 : (0 : Int) ≤ (q : Int) * (wtN kd : Int) := by exact_mod_cast Nat.zero_le _
        have m4 : (0 : Int) ≤ (q : Int) * (gaN c i (f + x) h : Int) := by exact_mod_cast Nat.zero_le _
        rw [Int.mul_sub]
        omega
  obtain ⟨a1, a2⟩ := key f1
  obtain ⟨b1, b2⟩ := key f2
  rw [isZ_lt a2 b2, isZ_lt a1 b1]
  constructor
  · intro z; exact Int.lt_of_mul_lt_mul_left z (by omega)
  · intro z; exact Int.mul_lt_mul_of_pos_left z (by omega)
theorem cwr_le (c : Cy) (h i f w kd : Nat) : cwrS c h i f w kd ≤ w := cntN_le _ _
def bfI (c : Cy) (h i w kd k : Nat) (b m g : Int32) : Prop := b = oI (bfO c h i w kd k) ∧ ∀ x, bfO c h i w kd k = some x → m = nI (cwrS c h i x w kd) ∧ g = fgS c h i x w kd
theorem bf_0 {c : Cy} {h i w kd : Nat} {m g : Int32} : bfI c h i w kd 0 (-1) m g := ⟨rfl, fun x e => by cases e⟩
theorem bf_take {c : Cy} (wf : WF c) {h i w kd k : Nat} {b m g : Int32} (hi : i < c.R 11 0) (hw : w ≤ 16) (hk : k < 1000) (H : bfI c h i w kd k b m g) (hd : b = -1 ∨ nI (cwrS c h i k w kd) < m ∨ (nI (cwrS c h i k w kd) = m ∧ g < fgS c h i k w kd)) : bfI c h i w kd (k + 1) (nI k) (nI (cwrS c h i k w kd)) (fgS c h i k w kd) := by
  obtain ⟨h1, h2⟩ := H
  have e : bfO c h i w kd (k + 1) = some k := by
    unfold bfO
    cases q : bfO c h i w kd k with
    | none => rfl
    | some x =>
      have hx := bfO_lt q
      obtain ⟨e1, e2⟩ := h2 x q
      have c1 := cwr_le c h i x w kd
      have c2 := cwr_le c h i k w kd
      rw [q] at h1
      simp only
      rw [if_pos]
      rcases hd with z | z | ⟨z1, z2⟩
      · exfalso
        rw [h1] at z
        exact nI_m1 (by omega) z
      · left
        rw [e1] at z
        exact (nI_ltI (by omega) (by omega)).mp z
      · right
        rw [e1] at z1
        rw [e2] at z2
        exact ⟨(nI_eq (by omega) (by omega)).mp z1, (gain_lt wf hi hw).mp z2⟩
  exact ⟨by rw [e]; rfl, fun x z => by rw [e] at z; rw [← Option.some.inj z]; exact ⟨rfl, rfl⟩⟩
theorem bf_keep {c : Cy} (wf : WF c) {h i w kd k : Nat} {b m g : Int32} (hi : i < c.R 11 0) (hw : w ≤ 16) (H : bfI c h i w kd k b m g) (h0 : ¬ b = -1) (hd1 : ¬ nI (cwrS c h i k w kd) < m) (hd2 : ¬ (nI (cwrS c h i k w kd) = m ∧ g < fgS c h i k w kd)) : bfI c h i w kd (k + 1) b m g := by
  obtain ⟨h1, h2⟩ := H
  cases q : bfO c h i w kd k with
  | none => rw [q] at h1; exact absurd h1 h0
  | some x =>
    obtain ⟨e1, e2⟩ := h2 x q
    have c1 := cwr_le c h i x w kd
    have c2 := cwr_le c h i k w kd
    have e : bfO c h i w kd (k + 1) = some x := by
      unfold bfO
      rw [q]
      simp only
      rw [if_neg]
      rintro (z | ⟨z1, z2⟩)
      · exact hd1 (by rw [e1]; exact (nI_ltI (by omega) (by omega)).mpr z)
      · exact hd2 ⟨by rw [e1, z1], by rw [e2]; exact (gain_lt wf hi hw).mpr z2⟩
    rw [q] at h1
    exact ⟨by rw [e]; exact h1, fun y z => by rw [e] at z; rw [← Option.some.inj z]; exact ⟨e1, e2⟩⟩
theorem lt_subI {W w k : Nat} (hW : W ≤ 1000) (hw : w ≤ 1000) (hk : k ≤ 1000) : nI W - nI w < nI k ↔ W < k + w := by
  have e := isZ_sub (isZ_n (n := W) (by omega)) (isZ_n (n := w) (by omega)) (by omega)
  rw [isZ_lt e (isZ_n (by omega))]
  omega
theorem bm_none {c : Cy} {h i w kd k : Nat} (hd : bfO c h i w kd k = none) : nI k = oI (bfO c h i w kd (k + 1)) := by
  have e : bfO c h i w kd (k + 1) = some k := by
    show (match bfO c h i w kd k with
      | none => some k
      | some b => _) = _
    rw [hd]
  rw [e]; rfl
theorem sub_lt0 {a b : Nat} (ha : a ≤ 1000) (hb : b ≤ 1000) : nI a - nI b < 0 ↔ a < b := by
  have h0 : isZ (0 : Int32) 0 := by unfold isZ; decide
  rw [isZ_lt (isZ_sub (isZ_n (n := a) (by omega)) (isZ_n (n := b) (by omega)) (by omega)) h0]
  omega
theorem sub_eq0 {a b : Nat} (ha : a ≤ 1000) (hb : b ≤ 1000) : nI a - nI b = 0 ↔ a = b := by
  have e := isZ_sub (isZ_n (n := a) (by omega)) (isZ_n (n := b) (by omega)) (by omega)
  constructor
  · intro z
    rw [z] at e
    unfold isZ at e
    have : (0 : Int32).toInt = 0 := by decide
    omega
  · rintro rfl
    exact Int32.sub_self _
theorem bm_take {c : Cy} {h i w kd k b : Nat} (hw : w ≤ 16) (hd : bfO c h i w kd k = some b) (hb : nI (cwrS c h i k w kd) - nI (cwrS c h i b w kd) < 0 ∨ (nI (cwrS c h i k w kd) - nI (cwrS c h i b w kd) = 0 ∧ gmS c h i b w kd < gmS c h i k w kd)) : nI k = oI (bfO c h i w kd (k + 1)) := by
  have c1 := cwr_le c h i b w kd
  have c2 := cwr_le c h i k w kd
  have e : bfO c h i w kd (k + 1) = some k := by
    unfold bfO
    rw [hd]
    simp only
    rw [if_pos]
    rcases hb with z | ⟨z1, z2⟩
    · exact Or.inl ((sub_lt0 (by omega) (by omega)).mp z)
    · exact Or.inr ⟨(sub_eq0 (by omega) (by omega)).mp z1, z2⟩
  rw [e]; rfl
theorem bm_keep {c : Cy} {h i w kd k b : Nat} (hw : w ≤ 16) (hd : bfO c h i w kd k = some b) (h1 : ¬ nI (cwrS c h i k w kd) - nI (cwrS c h i b w kd) < 0) (h2 : ¬ (nI (cwrS c h i k w kd) - nI (cwrS c h i b w kd) = 0 ∧ gmS c h i b w kd < gmS c h i k w kd)) : nI b = oI (bfO c h i w kd (k + 1)) := by
  have c1 := cwr_le c h i b w kd
  have c2 := cwr_le c h i k w kd
  have e : bfO c h i w kd (k + 1) = some b := by
    unfold bfO
    rw [hd]
    simp only
    rw [if_neg]
    rintro (z | ⟨z1, z2⟩)
    · exact h1 ((sub_lt0 (by omega) (by omega)).mpr z)
    · exact h2 ⟨(sub_eq0 (by omega) (by omega)).mpr z1, z2⟩
  rw [e]; rfl
