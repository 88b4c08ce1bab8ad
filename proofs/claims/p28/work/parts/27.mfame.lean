/-! the reference's calls that walk the lists by iterators -/
theorem fam_0 {X Y v : Int32} (h : v = nI 0) : X + Y = X + (Y + v) := by
  rw [h, show Y + nI 0 = Y from Int32.add_zero Y]
theorem fam_1 {X Y v w : Int32} (h : v = w) : X + Y + w = X + (Y + v) := by
  rw [h]; exact Int32.add_assoc _ _ _
theorem fam_2 {X v : Int32} (h : v = nI 0) : X = X + v := by
  rw [h]; exact (Int32.add_zero X).symm
theorem smI_0 : ∀ n, smI (fun _ => nI 0) n = nI 0
  | 0 => rfl
  | n + 1 => by
    show smI (fun _ => nI 0) n + nI 0 = nI 0
    rw [smI_0 n]; rfl
theorem smI_if {b : Bool} {g : Nat → Int32} (n : Nat) : smI (fun q => if b = true then nI 0 else g q) n = if b = true then nI 0 else smI g n := by
  cases b
  · rfl
  · exact smI_0 n
theorem anyS_iff {P : Nat → Bool} : ∀ {n f : Nat}, anyS P f n = true ↔ ∃ q, f ≤ q ∧ q < f + n ∧ P q = true
  | 0, f => ⟨fun z => (by cases z), fun ⟨q, h1, h2, _⟩ => absurd h1 (by omega)⟩
  | n + 1, f => by
    show (P f || anyS P (f + 1) n) = true ↔ _
    rw [Bool.or_eq_true, anyS_iff]
    constructor
    · rintro (z | ⟨q, h1, h2, h3⟩)
      · exact ⟨f, Nat.le_refl f, by omega, z⟩
      · exact ⟨q, by omega, by omega, h3⟩
    · rintro ⟨q, h1, h2, h3⟩
      by_cases z : q = f
      · exact Or.inl (by rw [← z]; exact h3)
      · exact Or.inr ⟨q, by omega, by omega, h3⟩
/-- cleaned within n nights: by division, and night by night -/
theorem ic_wbc {c : Cy} {i n : Nat} : icS c i n = wbcS c i n := by
  rw [Bool.eq_iff_iff]
  unfold wbcS icS clnS
  rw [anyS_iff]
  simp only [Bool.and_eq_true, Bool.not_eq_true', decide_eq_false_iff_not, decide_eq_true_eq]
  generalize c.R 2 i = d
  generalize c.R 0 0 = t
  constructor
  · rintro ⟨h1, h2⟩
    have hd : 0 < d := Nat.pos_of_ne_zero h1
    have e1 := Nat.div_add_mod t d
    have e2 := Nat.mod_lt t hd
    have h3 : (t / d + 1) * d ≤ t + n := (Nat.le_div_iff_mul_le hd).mp h2
    have e3 : (t / d + 1) * d = d * (t / d) + d := by rw [Nat.add_mul, Nat.one_mul, Nat.mul_comm]
    refine ⟨(t / d + 1) * d - t, by omega, by omega, hd, ?_⟩
    rw [show t + ((t / d + 1) * d - t) = (t / d + 1) * d by omega]
    exact Nat.mul_mod_left _ _
  · rintro ⟨q, h1, h2, hd, h4⟩
    refine ⟨by omega, ?_⟩
    have e1 := Nat.div_add_mod (t + q) d
    have h5 : t / d < (t + q) / d := by
      rw [Nat.div_lt_iff_lt_mul hd, Nat.mul_comm]
      omega
    exact Nat.lt_of_lt_of_le h5 (Nat.div_le_div_right (by omega))
theorem lo_f {c : Cy} {h n : Nat} : cntN (loM c h false) n = cntN (lofB c h) n := cntN_congr fun k _ => by simp [loM, lofB]
theorem lo_t {c : Cy} {h n : Nat} : cntN (loM c h true) n = cntN (lsfB c h) n := cntN_congr fun k _ => by simp [loM, lsfB]
theorem sl_f {c : Cy} {n : Nat} : cntN (slM c false) n = cntN (lseB c) n := cntN_congr fun k _ => by simp [slM, lseB]
theorem sl_t {c : Cy} {n : Nat} : cntN (slM c true) n = cntN (lwsB c) n := cntN_congr fun k _ => by simp [slM, lwsB, Bool.and_assoc]
theorem smI_z {f : Nat → Int32} {m : Nat} (h : ∀ k, m ≤ k → f k = nI 0) : ∀ d, smI f (m + d) = smI f m
  | 0 => rfl
  | d + 1 => by
    show smI f (m + d) + f (m + d) = _
    rw [smI_z h d, h (m + d) (by omega)]
    exact Int32.add_zero _
theorem sm_8 {c : Cy} (wf : WF c) {h : Nat} (hh : h < c.R 11 1) (e : c.R 10 1 = c.R 11 1) : smI (wrM c h true) (c.R 10 1) = smI (c.Wr h) 8 := by
  have h8 := wf.nh
  have := smI_z (f := c.Wr h) (m := c.R 10 1) (fun k hk => wf.w0 hh (by omega)) (8 - c.R 10 1)
  rw [show c.R 10 1 + (8 - c.R 10 1) = 8 by omega] at this
  exact this.symm
theorem sm_B (f : Nat → Bool) : ∀ n, smI (fun k => bI (f k)) n = nI (cntN f n)
  | 0 => rfl
  | n + 1 => by
    show smI (fun k => bI (f k)) n + bI (f n) = nI (cntN f n + (if f n = true then 1 else 0))
    rw [sm_B f n]
    cases f n
    · exact Int32.add_zero _
    · exact nI_add _ 1
abbrev QlM (v : Int64) (B : Heap → Prop) (A1 : Nat → Prop) : Array Value → State → Outcome → State → Prop := va_Ql (fun (r : Int64) (_ : Unit) => r = v) (fun _ t => B t.heap) A1
abbrev MuL (l : Launch) (y : MethodName) (b : ByteArray) (n : Nat) (rm : Room) (av : List Value) (E : En) (H : Heap) (v : Int64) (B : Heap → Prop) (A1 : Nat → Prop) (mc ms : Nat) : Prop := Met l y [.code y b n (some .long)] rm (PcR av E H) (QlM v B A1) mc ms A1
theorem mu_lret {p : Program} {l : Launch} {e : Env} {R : Room} {s : State} {m : MethodId} {args : Array Value} {below : List Frame} {meth : Method} {c : Code} {H : Heap} {locs : List Loc} {cc : ByteArray} {pc : Nat} {ls : Array Slot} {v x : Int64} {mc ms : Nat} {B : Heap → Prop} {A1 : Nat → Prop} (hx : p.tables.exec = Jvm.exec) (hb : c.code = cc) (hr : meth.sig.returnType = some .long) (hlocks : meth.locks = false) (hS : va_S A1 s.heap H locs) (hB : B H) (hv : x = v) (hdg : decode cc pc = .ok (.lreturn, 1)) : W p l e R s m args below meth c H locs mc ms (MQ below (QlM v B A1) args s mc ms A1) (F0 m pc ls [.long x]) := by
  subst hv
  exact W.lret hx hb hr (fun t ht hW => ⟨⟨x, (), rfl, rfl, by show B t.heap; rw [ht]; exact hB⟩, hS.F ht⟩) hS.2.2 hdg









