/-! nights, and paint -/
section GIB
variable {c c2 : Cy} {g : Nat → Int32} {hs t : Nat} {F F2 : Nat → Int32}
theorem ni_R {a z : Nat} (h0 : a ≠ 0) (h3 : a ≠ 3) : (ni1 c).R a z = c.R a z := by
  show (if a = 3 ∧ z < c.R 10 1 then 0 else if a = 0 ∧ z = 0 then c.R 0 0 + 1 else c.R a z) = _
  rw [if_neg (fun q => h3 q.1), if_neg (fun q => h0 q.1)]
theorem ni_I {a z : Nat} (h0 : a ≠ 0) : (ni1 c).I a z = c.I a z := up2_a _ _ h0
theorem ni_s {i k j : Nat} (e : (ni1 c).sh i k = some j) : c.sh i k = some j := by
  have e : bnS c (c.R 10 0) i k = some j := e
  unfold bnS at e
  split at e
  · cases e
  · exact e
theorem ni_GI {t2 : Nat} (h : GI c g hs F t) (ht : c.R 0 0 + 1 ≤ 4 * t2) : GI (ni1 c) g hs F t2 := by
  have r0 : (ni1 c).R 0 0 = c.R 0 0 + 1 := by
    show (if 0 = 3 ∧ 0 < c.R 10 1 then 0 else if 0 = 0 ∧ 0 = 0 then c.R 0 0 + 1 else c.R 0 0) = _
    rw [if_neg (fun q => absurd q.1 (by omega)), if_pos ⟨rfl, rfl⟩]
  unfold GI
  rw [r0]
  simp only [ni_R (c := c) (a := 10) (by omega) (by omega), ni_R (c := c) (a := 11) (by omega) (by omega), ni_R (c := c) (a := 1) (by omega) (by omega), ni_R (c := c) (a := 6) (by omega) (by omega), ni_R (c := c) (a := 7) (by omega) (by omega), ni_R (c := c) (a := 8) (by omega) (by omega), ni_I (c := c) (a := 11) (by omega), ni_I (c := c) (a := 13) (by omega), ni_I (c := c) (a := 4) (by omega)]
  refine ⟨⟨h.nw, h.nw1⟩, ⟨h.nh, h.nh1⟩, h.nl, fun i hi => h.wi hi, ?_, ht, fun z hz => h.ow hz, fun z hz => h.fi hz, fun z hz => h.ca hz, fun i k j hi hk e => h.se hi hk (ni_s e), fun i hi => h.pe hi⟩
  obtain ⟨C, e, hC⟩ := h.co
  refine ⟨C + 5, ?_, by omega⟩
  show up2 c.I 0 0 (c.I 0 0 + nI 5) 0 0 = _
  rw [up2_same, e, nI_add]
theorem nis_GI (h : GI c g hs F t) : ∀ {n : Nat}, n ≤ 4 → GI (niC c n) g hs F (t + 1)
  | 0, _ => h.keep
  | n + 1, hn => by
    have ih := nis_GI h (n := n) (by omega)
    have e := niC_0 c n
    have := h.ti
    exact ni_GI ih (by rw [e]; omega)
theorem ni_tot1 {i : Nat} (hi : i < c.R 10 0) : cntN (pntB (ni1 c) i) ((ni1 c).R 1 i) + niF c i = cntN (pntB c i) (c.R 1 i) := by
  rw [ni_R (by omega) (by omega)]
  unfold niF
  by_cases q : clnS c i (c.R 0 0 + 1) = true
  · rw [if_pos q, cnt_0 (fun k hk => ?_), Nat.zero_add]
    have e : (ni1 c).sh i k = none := if_pos ⟨hi, q, hk⟩
    unfold pntB
    rw [e]; rfl
  · rw [if_neg q, Nat.add_zero]
    refine cntN_congr fun k hk => ?_
    have e : (ni1 c).sh i k = c.sh i k := if_neg (fun z => q z.2.1)
    unfold pntB
    rw [e]
/-- the painted cells of the three walls -/
def toS (c : Cy) : Nat := cntN (pntB c 0) (c.R 1 0) + cntN (pntB c 1) (c.R 1 1) + cntN (pntB c 2) (c.R 1 2)
theorem ni_tot (h : c.R 10 0 = 3) : toS (ni1 c) + niN c = toS c := by
  have h0 := ni_tot1 (c := c) (i := 0) (by omega)
  have h1 := ni_tot1 (c := c) (i := 1) (by omega)
  have h2 := ni_tot1 (c := c) (i := 2) (by omega)
  have e : niN c = 0 + niF c 0 + niF c 1 + niF c 2 := by unfold niN; rw [h]; rfl
  unfold toS
  omega
theorem nis_tot (h : c.R 10 0 = 3) : ∀ n, toS (niC c n) + smN (fun k => niN (niC c k)) n = toS c ∧ (niC c n).R 10 0 = 3
  | 0 => ⟨rfl, h⟩
  | n + 1 => by
    obtain ⟨h1, h2⟩ := nis_tot h n
    have h3 := ni_tot h2
    refine ⟨?_, (ni_R (by omega) (by omega)).trans h2⟩
    show toS (ni1 (niC c n)) + (smN _ n + niN (niC c n)) = _
    omega
theorem nis_coin : ∀ n, (niC c n).I 0 0 = c.I 0 0 + nI (5 * n)
  | 0 => (Int32.add_zero _).symm
  | n + 1 => by
    show up2 (niC c n).I 0 0 ((niC c n).I 0 0 + nI 5) 0 0 = _
    rw [up2_same, nis_coin n, Int32.add_assoc, nI_add, Nat.mul_succ]
theorem nis_R10 : ∀ n, (niC c n).R 10 1 = c.R 10 1
  | 0 => rfl
  | n + 1 => (ni_R (c := niC c n) (by omega) (by omega)).trans (nis_R10 n)
theorem nis_min {n z : Nat} (hn : 1 ≤ n) (hz : z < c.R 10 1) : (niC c n).R 3 z = 0 := by
  obtain ⟨m, rfl⟩ : ∃ m, n = m + 1 := ⟨n - 1, by omega⟩
  show (if 3 = 3 ∧ z < (niC c m).R 10 1 then 0 else _) = 0
  rw [if_pos ⟨rfl, by rw [nis_R10]; exact hz⟩]
theorem toI (c : Cy) : nI (cntN (pntB c 0) (c.R 1 0)) + nI (cntN (pntB c 1) (c.R 1 1)) + nI (cntN (pntB c 2) (c.R 1 2)) = nI (toS c) := by rw [nI_add, nI_add]; rfl
theorem nis_totI (h : c.R 10 0 = 3) (n : Nat) : nI (toS (niC c n)) = nI (toS c) - nI (smN (fun k => niN (niC c k)) n) := by
  obtain ⟨h1, -⟩ := nis_tot h n
  rw [pk_sub (by omega)]
  congr 1
  omega
/-! paint -/
def pnC (c : Cy) (h i f u kd : Nat) : Cy := if 360 - c.R 3 h < u * mcS c h kd ∨ 60 ≤ c.R 10 2 then c else ptC c h i f u kd (nI 0)
section PNT
variable {h i f u kd : Nat}
theorem pt_R {a z : Nat} (h3 : a ≠ 3) (h10 : a ≠ 10) (h11 : a ≠ 11) (hz : z ≠ c.R 11 2) : (ptC c h i f u kd (nI 0)).R a z = c.R a z := by
  show up2 (up2 (ptL c h i f u kd (nI 0)).R 10 2 _) 3 h _ a z = _
  rw [up2_a _ _ h3, up2_a _ _ h10]
  unfold ptL
  rw [mkL_R, up2_a _ _ h11, up2_ne _ _ (fun q => hz q.2), up2_ne _ _ (fun q => hz q.2), up2_ne _ _ (fun q => hz q.2), up2_ne _ _ (fun q => hz q.2), up2_ne _ _ (fun q => hz q.2)]
theorem pt_Ro {a z : Nat} (h3 : a ≠ 3) (h5 : a < 5 ∨ (10 ≤ a ∧ z ≠ 2)) : (ptC c h i f u kd (nI 0)).R a z = c.R a z := by
  show up2 (up2 (ptL c h i f u kd (nI 0)).R 10 2 _) 3 h _ a z = _
  rw [up2_a _ _ h3, up2_ne _ _ (fun q => by omega)]
  unfold ptL
  rw [mkL_R, up2_ne _ _ (fun q => by omega), up2_ne _ _ (fun q => by omega), up2_ne _ _ (fun q => by omega), up2_ne _ _ (fun q => by omega), up2_ne _ _ (fun q => by omega), up2_ne _ _ (fun q => by omega)]
theorem pt_10 : (ptC c h i f u kd (nI 0)).R 10 2 = c.R 10 2 + 1 := by
  show up2 (up2 (ptL c h i f u kd (nI 0)).R 10 2 (c.R 10 2 + 1)) 3 h (c.R 3 h + u * mcS c h kd) 10 2 = _
  rw [up2_a _ _ (by omega), up2_same]
theorem pt_11 : (ptC c h i f u kd (nI 0)).R 11 2 = c.R 11 2 + 1 := by
  show up2 (up2 (ptL c h i f u kd (nI 0)).R 10 2 (c.R 10 2 + 1)) 3 h (c.R 3 h + u * mcS c h kd) 11 2 = _
  rw [up2_a _ _ (by omega), up2_a _ _ (by omega)]
  unfold ptL
  rw [mkL_R, up2_same]
theorem pt_3 : (ptC c h i f u kd (nI 0)).R 3 h = c.R 3 h + u * mcS c h kd := up2_same _ _ _ _
theorem pt_new {a : Nat} (ha : 5 ≤ a ∧ a ≤ 9) : (ptC c h i f u kd (nI 0)).R a (c.R 11 2) = if a = 5 then h else if a = 6 then i else if a = 7 then f else if a = 8 then u else kd := by
  show up2 (up2 (ptL c h i f u kd (nI 0)).R 10 2 _) 3 h _ a (c.R 11 2) = _
  rw [up2_a _ _ (by omega), up2_a _ _ (by omega)]
  unfold ptL
  rw [mkL_R]
  simp only [up2]
  obtain ⟨a1, a2⟩ := ha
  have : a = 5 ∨ a = 6 ∨ a = 7 ∨ a = 8 ∨ a = 9 := by omega
  rcases this with rfl | rfl | rfl | rfl | rfl <;> simp
theorem pt_sh {a k : Nat} : (ptC c h i f u kd (nI 0)).sh a k = if a = i ∧ f ≤ k ∧ k < f + u then some (c.R 11 2) else c.sh a k := rfl
theorem pt_I {a z : Nat} (ha : a ≠ 11 ∧ a ≠ 13 ∧ a ≠ 15 ∧ a ≠ 16) : (ptC c h i f u kd (nI 0)).I a z = c.I a z := by
  have e : (ptL c h i f u kd (nI 0)).I a z = c.I a z := by
    unfold ptL
    rw [mkL_I, up2_a _ _ ha.2.2.2, up2_a _ _ ha.2.2.1]
  show (if ptK c h i u kd = true then up2 (up2 (ptL c h i f u kd (nI 0)).I 11 h _) 13 h _ else (ptL c h i f u kd (nI 0)).I) a z = _
  split
  · rw [up2_a _ _ ha.2.1, up2_a _ _ ha.1]; exact e
  · exact e
theorem pt_IL {a z : Nat} (ha : a = 11 ∨ a = 13) : (ptL c h i f u kd (nI 0)).I a z = c.I a z := by
  unfold ptL
  rw [mkL_I, up2_a _ _ (by omega), up2_a _ _ (by omega)]
theorem pt_fi (z : Nat) : (ptC c h i f u kd (nI 0)).I 11 z = if z = h ∧ ptK c h i u kd = true then c.I 11 h + nI (20 + 10 * kd) else c.I 11 z := by
  show (if ptK c h i u kd = true then up2 (up2 (ptL c h i f u kd (nI 0)).I 11 h _) 13 h _ else (ptL c h i f u kd (nI 0)).I) 11 z = _
  by_cases q : ptK c h i u kd = true
  · rw [if_pos q, up2_a _ _ (by omega)]
    by_cases w : z = h
    · subst w; rw [if_pos ⟨rfl, q⟩, up2_same]
    · rw [if_neg (fun v => w v.1), up2_ne _ _ (fun v => w v.2)]; exact pt_IL (by omega)
  · rw [if_neg q, if_neg (fun v => q v.2)]; exact pt_IL (by omega)
theorem pt_ca (z : Nat) : (ptC c h i f u kd (nI 0)).I 13 z = if z = h ∧ ptK c h i u kd = true then c.I 13 h + nI 1 else c.I 13 z := by
  show (if ptK c h i u kd = true then up2 (up2 (ptL c h i f u kd (nI 0)).I 11 h _) 13 h _ else (ptL c h i f u kd (nI 0)).I) 13 z = _
  by_cases q : ptK c h i u kd = true
  · rw [if_pos q]
    by_cases w : z = h
    · subst w; rw [if_pos ⟨rfl, q⟩, up2_same]
    · rw [if_neg (fun v => w v.1), up2_ne _ _ (fun v => w v.2), up2_a _ _ (by omega)]; exact pt_IL (by omega)
  · rw [if_neg q, if_neg (fun v => q v.2)]; exact pt_IL (by omega)
theorem pt_kn (z : Nat) : (ptC c h i f u kd (nI 0)).B 0 z = if z = h ∧ ptK c h i u kd = true then true else c.B 0 z := by
  have e : (ptL c h i f u kd (nI 0)).B 0 z = c.B 0 z := by
    unfold ptL
    rw [mkL_B, up2_a _ _ (by omega), up2_a _ _ (by omega), up2_a _ _ (by omega)]
  show (if ptK c h i u kd = true then up2 (ptL c h i f u kd (nI 0)).B 0 h true else (ptL c h i f u kd (nI 0)).B) 0 z = _
  by_cases q : ptK c h i u kd = true
  · rw [if_pos q]
    by_cases w : z = h
    · subst w; rw [if_pos ⟨rfl, q⟩, up2_same]
    · rw [if_neg (fun v => w v.1), up2_ne _ _ (fun v => w v.2)]; exact e
  · rw [if_neg q, if_neg (fun v => q v.2)]; exact e
theorem pt_le : (ptC c h i f u kd (nI 0)).B 1 (c.R 11 2) = permS c h i := by
  have e : (ptL c h i f u kd (nI 0)).B 1 (c.R 11 2) = permS c h i := by
    unfold ptL
    rw [mkL_B, up2_a _ _ (by omega), up2_a _ _ (by omega), up2_same]
  show (if ptK c h i u kd = true then up2 (ptL c h i f u kd (nI 0)).B 0 h true else (ptL c h i f u kd (nI 0)).B) 1 (c.R 11 2) = _
  split
  · rw [up2_a _ _ (by omega)]; exact e
  · exact e
theorem pt_ni : (ptC c h i f u kd (nI 0)).I 16 (c.R 11 2) = nI (c.R 0 0) := by
  have e : (ptL c h i f u kd (nI 0)).I 16 (c.R 11 2) = nI (c.R 0 0) := by
    unfold ptL
    rw [mkL_I, up2_same]
  show (if ptK c h i u kd = true then up2 (up2 (ptL c h i f u kd (nI 0)).I 11 h _) 13 h _ else (ptL c h i f u kd (nI 0)).I) 16 (c.R 11 2) = _
  split
  · rw [up2_a _ _ (by omega), up2_a _ _ (by omega)]; exact e
  · exact e
/-- wrongs -/
theorem wa_ne {k x : Nat} (e : waS c h i f k kd = some x) : x ≠ h := by
  unfold waS at e
  split at e
  · cases e
  · next j _ =>
    split at e
    · cases e
    · split at e
      · next q =>
        rw [← Option.some.inj e]
        intro z
        unfold iswS at q
        rw [if_pos z] at q
        cases q
      · cases e
theorem dw_hh {y : Nat} : ∀ n, dwW c h i f kd n y y = c.Wr y y
  | 0 => rfl
  | n + 1 => by
    cases e : waS c h i f (f + n) kd with
    | none =>
      have e1 : dwW c h i f kd (n + 1) = dwW c h i f kd n := by simp only [dwW, e]
      rw [e1]; exact dw_hh n
    | some x =>
      have e1 : dwW c h i f kd (n + 1) = up2 (dwW c h i f kd n) h x (dwW c h i f kd n h x + nI 1) := by simp only [dwW, e]
      rw [e1, up2_ne _ _ (fun q => wa_ne e (q.2.symm.trans q.1))]
      exact dw_hh n
theorem dw_sum (wf : WF c) (hi : i < c.R 11 0) : ∀ n, f + n ≤ c.R 1 i → smI (dwW c h i f kd n h) 8 = smI (c.Wr h) 8 + nI (cwrS c h i f n kd)
  | 0, _ => (Int32.add_zero _).symm
  | n + 1, hn => by
    have ih := dw_sum wf hi n (by omega)
    have e0 : cwrS c h i f (n + 1) kd = cwrS c h i f n kd + (if (waS c h i f (f + n) kd).isSome = true then 1 else 0) := rfl
    rw [e0]
    cases e : waS c h i f (f + n) kd with
    | none =>
      have e1 : dwW c h i f kd (n + 1) = dwW c h i f kd n := by simp only [dwW, e]
      rw [e1, ih]; simp
    | some x =>
      have hx : x < 8 := Nat.lt_of_lt_of_le (waS_lt wf hi (show f + n < c.R 1 i by omega) e) wf.nh
      have e1 : dwW c h i f kd (n + 1) = up2 (dwW c h i f kd n) h x (dwW c h i f kd n h x + nI 1) := by simp only [dwW, e]
      rw [e1, smI_cg (g := fun k => if k = x then dwW c h i f kd n h x + nI 1 else dwW c h i f kd n h k) (fun k hk => by unfold up2; by_cases w : k = x <;> simp [w]), smI_up hx, ih, Int32.add_assoc, nI_add]
      simp
theorem pt_wr (wf : WF c) (hi : i < c.R 11 0) (hf : f + u ≤ c.R 1 i) : smI ((ptC c h i f u kd (nI 0)).Wr h) 8 = smI (c.Wr h) 8 + nI (cwrS c h i f u kd) := dw_sum wf hi u hf
theorem pt_show {k : Nat} (h1 : f ≤ k) (h2 : k < f + u) : shI (ptC c h i f u kd (nI 0)) i k = nI (c.R 11 2) := shI_s (if_pos ⟨rfl, h1, h2⟩)
theorem pt_seen (wf : WF c) (hi : i < c.R 11 0) (hf : f + u ≤ c.R 1 i) : seenS (ptC c h i f u kd (nI 0)) (c.R 11 2) = u := by
  have e6 : (ptC c h i f u kd (nI 0)).R 6 (c.R 11 2) = i := (pt_new (by omega)).trans (by simp)
  unfold seenS csS
  rw [e6, pt_Ro (by omega) (by omega)]
  refine Eq.trans (cntN_congr fun k hk => ?_) (cnt_one hf)
  unfold shwB
  rw [pt_sh]
  by_cases q : f ≤ k ∧ k < f + u
  · rw [if_pos ⟨rfl, q⟩]; simp [q]
  · rw [if_neg (fun z => q z.2), decide_eq_false q]
    refine decide_eq_false fun z => ?_
    have := wf.sj hi hk z
    omega
theorem mc_le2 (wf : WF c) (hh : h < c.R 11 1) : 1 ≤ mcS c h kd ∧ mcS c h kd ≤ 90 := by
  have h1 := wf.sp hh
  have h2 := tkN_le kd
  unfold mcS
  constructor
  · exact (Nat.one_le_div_iff (by omega)).mpr (by omega)
  · have := Nat.div_mul_le_self (tkN kd + c.R 4 h - 1) (c.R 4 h)
    generalize (tkN kd + c.R 4 h - 1) / c.R 4 h = q at this ⊢
    refine Nat.le_of_not_lt fun hq => ?_
    have h3 : 91 * c.R 4 h ≤ q * c.R 4 h := Nat.mul_le_mul_right _ hq
    omega
/-- what is caught more -/
theorem pt_more (c : Cy) (h i f u kd : Nat) : (ptC c h i f u kd (nI 0)).I 13 h - c.I 13 h = if ptK c h i u kd = true then nI 1 else nI 0 := by
  rw [pt_ca]
  by_cases q : ptK c h i u kd = true
  · rw [if_pos ⟨rfl, q⟩, if_pos q, Int32.add_comm, Int32.add_sub_cancel]
  · rw [if_neg (fun z => q z.2), if_neg q]; exact Int32.sub_self _
theorem pt_GI (wf : WF c) (G : GI c g hs F t) (hh : h < hs) (hi : i < 3) (hf : f + u ≤ c.R 1 i) : GI (ptC c h i f u kd (nI 0)) g hs (upd F h (F h + ((ptC c h i f u kd (nI 0)).I 13 h - c.I 13 h) * nI (20 + 10 * kd))) (t + 1) := by
  rw [pt_more]
  unfold GI
  rw [pt_10, pt_11, pt_Ro (a := 10) (z := 0) (by omega) (by omega), pt_Ro (a := 11) (z := 0) (by omega) (by omega), pt_Ro (a := 10) (z := 1) (by omega) (by omega), pt_Ro (a := 11) (z := 1) (by omega) (by omega), pt_Ro (a := 0) (z := 0) (by omega) (by omega)]
  refine ⟨⟨G.nw, G.nw1⟩, ⟨G.nh, G.nh1⟩, by rw [G.nl], fun a ha => ?_, ?_, by have := G.ti; omega, fun z hz => ?_, fun z hz => ?_, fun z hz => ?_, fun a k j ha hk e => ?_, fun a ha => ?_⟩
  · rw [pt_Ro (by omega) (by omega)]; exact G.wi ha
  · rw [pt_I (by omega)]; exact G.co
  · exact (dw_hh u).trans (G.ow hz)
  · rw [pt_fi]
    unfold upd
    by_cases q : z = h
    · subst q
      rw [if_pos rfl]
      by_cases w : ptK c z i u kd = true
      · rw [if_pos ⟨rfl, w⟩, if_pos w, G.fi hz]
        congr 1
        exact (Int32.one_mul _).symm
      · rw [if_neg (fun v => w v.2), if_neg w, G.fi hz]
        have : nI 0 * nI (20 + 10 * kd) = 0 := Int32.zero_mul
        rw [this, Int32.add_zero]
    · rw [if_neg (fun v => q v.1), if_neg q]; exact G.fi hz
  · obtain ⟨q, q1, q2, q3⟩ := G.ca hz
    rw [pt_ca, pt_kn]
    by_cases w : z = h ∧ ptK c h i u kd = true
    · rw [if_pos w, if_pos w]
      refine ⟨q + 1, by omega, ?_, by simp⟩
      rw [← w.1, q2, nI_add]
    · rw [if_neg w, if_neg w]
      exact ⟨q, by omega, q2, q3⟩
  · rw [pt_Ro (a := 1) (by omega) (by omega)] at hk
    rw [pt_sh] at e
    by_cases w : a = i ∧ f ≤ k ∧ k < f + u
    · rw [if_pos w] at e
      have ej := Option.some.inj e
      subst ej
      rw [pt_new (a := 6) (by omega), pt_new (a := 7) (by omega), pt_new (a := 8) (by omega)]
      simp only [if_neg (show ¬ (6 : Nat) = 5 by omega), if_neg (show ¬ (7 : Nat) = 5 by omega), if_neg (show ¬ (8 : Nat) = 5 by omega), if_neg (show ¬ (7 : Nat) = 6 by omega), if_neg (show ¬ (8 : Nat) = 6 by omega), if_neg (show ¬ (8 : Nat) = 7 by omega), if_true]
      exact ⟨w.1.symm, w.2.1, w.2.2⟩
    · rw [if_neg w] at e
      have hj := wf.sj (show a < c.R 11 0 by rw [G.nw1]; exact ha) hk e
      rw [pt_R (a := 6) (by omega) (by omega) (by omega) (by omega), pt_R (a := 7) (by omega) (by omega) (by omega) (by omega), pt_R (a := 8) (by omega) (by omega) (by omega) (by omega)]
      exact G.se ha hk e
  · rw [pt_I (by omega)]; exact G.pe ha
end PNT
end GIB
