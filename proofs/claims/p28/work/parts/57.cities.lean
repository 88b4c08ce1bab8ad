/-! the law's cities, by name -/
theorem cy_eta (c : Cy) : (c.R, c.I, c.B, c.Wr, c.sh) = c := rfl
def peC (c : Cy) (i a b : Nat) : Cy := (c.R, pmI c i (nI a) (nI b), c.B, c.Wr, c.sh)
def waC (c : Cy) (i a b : Nat) : Cy := (c.R, waI c i a b, c.B, c.Wr, c.sh)
def reC (c : Cy) (j : Nat) : Cy := (c.R, c.I, up2 c.B 3 j true, c.Wr, c.sh)
def paC (c : Cy) (h : Nat) : Cy := (c.R, up2 c.I 11 h (nI 0), c.B, c.Wr, c.sh)
section NMC
variable {c : Cy} {g : Nat → Int32} {hs t : Nat} {F : Nat → Int32} {i a b j h : Nat}
theorem pe_R : (peC c i a b).R = c.R := rfl
theorem pe_GI (G : GI c g hs F t) (ha : a ≤ 3) : GI (peC c i a b) g hs F (t + 1) := pm_GI G ha (nI b)
theorem pe_pc (hb : c.R 0 0 ≤ b) (hb2 : b ≤ 1000) : pcS (peC c i a b) i (nI ((peC c i a b).R 0 0)) = nI a := pm_pc hb hb2
theorem wa_R : (waC c i a b).R = c.R := rfl
theorem wc_GI (G : GI c g hs F t) : GI (waC c i a b) g hs F (t + 1) := wa_GI G i a b
theorem wa_v (h : a ≤ b) (hb : b < 1000) : ¬ nI b - nI a + nI 1 < nI 1 := by
  rw [pk_sub h, nI_add]
  exact nI_nlt (by omega) (by omega)
theorem re_R : (reC c j).R = c.R := rfl
theorem rc_GI (G : GI c g hs F t) : GI (reC c j) g hs F (t + 1) := re_GI G j
theorem re_8 : bI ((reC c j).B 3 j) = nI 1 := by
  have : (reC c j).B 3 j = true := up2_same c.B 3 j true
  rw [this]; rfl
theorem pa_R : (paC c h).R = c.R := rfl
theorem pc_GI (G : GI c g hs F t) : GI (paC c h) g hs (upd F h (nI 0)) (t + 1) := pa_GI G h
theorem pa_2 : (paC c h).I 11 h = nI 0 := up2_same c.I 11 h (nI 0)
theorem cl_R : (clC c i).R = c.R := rfl
theorem cl_9 (wf : WF c) (G : GI c g hs F t) (hi : i < 3) : smI ((clC c i).I 14) ((clC c i).R 10 1) = smI (c.I 14) (c.R 10 1) + clT c i (c.R 1 i) := by
  rw [cl_R]
  exact cl_sum wf (by rw [G.nw1]; exact hi) (by rw [G.nh1, G.nh]) _ (Nat.le_refl _)
theorem cl_4 : nI (cntN (pntB (clC c i) i) ((clC c i).R 1 i)) = nI 0 := by rw [cl_R, cl_p]
theorem cl_5 : (clC c i).I 0 0 = c.I 0 0 := clI_o (by omega) _
theorem se_R : (seC c j).R = c.R := rfl
theorem se_10 : (seC c j).I 1 0 = c.I 1 0 + prS c j := up2_same c.I 1 0 (c.I 1 0 + prS c j)
theorem se_9 : nI (seenS (seC c j) j) = nI 0 := by rw [se_0]
theorem se_4 (wf : WF c) (hj : j < c.R 11 2) : nI (cntN (pntB (seC c j) (c.R 6 j)) ((seC c j).R 1 (c.R 6 j))) = nI (cntN (pntB c (c.R 6 j)) (c.R 1 (c.R 6 j))) - nI (seenS c j) := by
  rw [se_R]
  exact se_pI wf hj
end NMC
/-! walls and hands come -/
def PW (c : Cy) (g : Nat → Int32) (k : Nat) : Prop :=
  (c.R 10 0 = k ∧ c.R 11 0 = k) ∧ (c.R 10 1 = 0 ∧ c.R 11 1 = 0) ∧ (c.R 10 2 = 0 ∧ c.R 11 2 = 0) ∧ (∀ i, i < k → g i = nI (c.R 1 i)) ∧ c.I 0 0 = nI 30 ∧ c.R 0 0 = 0 ∧ (∀ i, i < k → c.I 4 i = -1) ∧ ∀ i q, i < k → c.sh i q = none
def PH (c : Cy) (g : Nat → Int32) (k : Nat) : Prop :=
  (c.R 10 0 = 3 ∧ c.R 11 0 = 3) ∧ (c.R 10 1 = k ∧ c.R 11 1 = k) ∧ (c.R 10 2 = 0 ∧ c.R 11 2 = 0) ∧ (∀ i, i < 3 → g i = nI (c.R 1 i)) ∧ c.I 0 0 = nI 30 ∧ c.R 0 0 = 0 ∧ (∀ i, i < 3 → c.I 4 i = -1) ∧ (∀ i q, i < 3 → c.sh i q = none) ∧ ∀ h, h < k → c.Wr h h = nI 0 ∧ c.I 11 h = nI 0 ∧ c.I 13 h = nI 0 ∧ c.B 0 h = false
section PWS
variable {c : Cy} {g : Nat → Int32} {k : Nat}
theorem PW_0 : PW c0S g 0 := ⟨⟨rfl, rfl⟩, ⟨rfl, rfl⟩, ⟨rfl, rfl⟩, fun i h => absurd h (Nat.not_lt_zero i), rfl, rfl, fun i h => absurd h (Nat.not_lt_zero i), fun i q h => absurd h (Nat.not_lt_zero i)⟩
theorem PW_s (P : PW c g k) {w cl : Nat} {sg ow : Int32} : PW (lsC (mkW c w cl sg ow) 0) (upd g k (nI w)) (k + 1) := by
  obtain ⟨⟨p1, p2⟩, ⟨p3, p4⟩, ⟨p5, p6⟩, p7, p8, p9, p10, p11⟩ := P
  have eR : ∀ a z, (lsC (mkW c w cl sg ow) 0).R a z = up2 (up2 (up2 (up2 c.R 1 (c.R 11 0) w) 2 (c.R 11 0) cl) 11 0 (c.R 11 0 + 1)) 10 0 ((mkW c w cl sg ow).R 10 0 + 1) a z := fun _ _ => rfl
  have eI : ∀ a z, (lsC (mkW c w cl sg ow) 0).I a z = up2 (up2 (up2 (up2 (up2 (up2 c.I 2 (c.R 11 0) sg) 3 (c.R 11 0) ow) 4 (c.R 11 0) (-1)) 5 (c.R 11 0) (-1)) 6 (c.R 11 0) (nI 0)) 7 (c.R 11 0) (-1) a z := fun _ _ => rfl
  have e10 : (mkW c w cl sg ow).R 10 0 = c.R 10 0 := by
    show up2 (up2 (up2 c.R 1 (c.R 11 0) w) 2 (c.R 11 0) cl) 11 0 (c.R 11 0 + 1) 10 0 = _
    rw [up2_a _ _ (by omega), up2_a _ _ (by omega), up2_a _ _ (by omega)]
  refine ⟨⟨?_, ?_⟩, ⟨?_, ?_⟩, ⟨?_, ?_⟩, fun i hi => ?_, ?_, ?_, fun i hi => ?_, fun i q hi => ?_⟩
  · rw [eR, up2_same, e10, p1]
  · rw [eR, up2_a _ _ (by omega), up2_same, p2]
  · rw [eR, up2_ne _ _ (by omega), up2_a _ _ (by omega), up2_a _ _ (by omega), up2_a _ _ (by omega)]; exact p3
  · rw [eR, up2_a _ _ (by omega), up2_ne _ _ (by omega), up2_a _ _ (by omega), up2_a _ _ (by omega)]; exact p4
  · rw [eR, up2_ne _ _ (by omega), up2_a _ _ (by omega), up2_a _ _ (by omega), up2_a _ _ (by omega)]; exact p5
  · rw [eR, up2_a _ _ (by omega), up2_ne _ _ (by omega), up2_a _ _ (by omega), up2_a _ _ (by omega)]; exact p6
  · rw [eR, up2_a _ _ (by omega), up2_a _ _ (by omega), up2_a _ _ (by omega)]
    unfold upd
    by_cases q : i = k
    · subst q; rw [if_pos rfl, p2, up2_same]
    · rw [if_neg q, up2_ne _ _ (by omega)]; exact p7 i (by omega)
  · rw [eI, up2_a _ _ (by omega), up2_a _ _ (by omega), up2_a _ _ (by omega), up2_a _ _ (by omega), up2_a _ _ (by omega), up2_a _ _ (by omega)]; exact p8
  · rw [eR, up2_a _ _ (by omega), up2_a _ _ (by omega), up2_a _ _ (by omega), up2_a _ _ (by omega)]; exact p9
  · rw [eI, up2_a _ _ (by omega), up2_a _ _ (by omega), up2_a _ _ (by omega)]
    by_cases q : i = k
    · subst q; rw [p2, up2_same]
    · rw [up2_ne _ _ (by omega), up2_a _ _ (by omega), up2_a _ _ (by omega)]; exact p10 i (by omega)
  · show (if i = c.R 11 0 then none else c.sh i q) = none
    rw [p2]
    by_cases z : i = k
    · rw [if_pos z]
    · rw [if_neg z]; exact p11 i q (by omega)
theorem PW_e (P : PW c g 3) : PH c g 0 := by
  obtain ⟨h1, h2, h3, h4, h5, h6, h7, h8⟩ := P
  exact ⟨h1, h2, h3, h4, h5, h6, h7, h8, fun h z => absurd z (Nat.not_lt_zero h)⟩
theorem PH_s (P : PH c g k) {sp : Nat} {cr sl rd : Int32} : PH (lsC (mkH c sp cr sl rd) 1) g (k + 1) := by
  obtain ⟨⟨p1, p2⟩, ⟨p3, p4⟩, ⟨p5, p6⟩, p7, p8, p9, p10, p11, p12⟩ := P
  have eR : ∀ a z, (lsC (mkH c sp cr sl rd) 1).R a z = up2 (up2 (up2 (up2 c.R 3 (c.R 11 1) 0) 4 (c.R 11 1) sp) 11 1 (c.R 11 1 + 1)) 10 1 ((mkH c sp cr sl rd).R 10 1 + 1) a z := fun _ _ => rfl
  have eI : ∀ a z, (lsC (mkH c sp cr sl rd) 1).I a z = up2 (up2 (up2 (up2 (up2 (up2 c.I 8 (c.R 11 1) cr) 9 (c.R 11 1) sl) 10 (c.R 11 1) rd) 11 (c.R 11 1) (nI 0)) 13 (c.R 11 1) (nI 0)) 14 (c.R 11 1) (nI 0) a z := fun _ _ => rfl
  have e10 : (mkH c sp cr sl rd).R 10 1 = c.R 10 1 := by
    show up2 (up2 (up2 c.R 3 (c.R 11 1) 0) 4 (c.R 11 1) sp) 11 1 (c.R 11 1 + 1) 10 1 = _
    rw [up2_a _ _ (by omega), up2_a _ _ (by omega), up2_a _ _ (by omega)]
  refine ⟨⟨?_, ?_⟩, ⟨?_, ?_⟩, ⟨?_, ?_⟩, fun i hi => ?_, ?_, ?_, fun i hi => ?_, fun i q hi => ?_, fun h hh => ⟨?_, ?_, ?_, ?_⟩⟩
  · rw [eR, up2_ne _ _ (by omega), up2_a _ _ (by omega), up2_a _ _ (by omega), up2_a _ _ (by omega)]; exact p1
  · rw [eR, up2_a _ _ (by omega), up2_ne _ _ (by omega), up2_a _ _ (by omega), up2_a _ _ (by omega)]; exact p2
  · rw [eR, up2_same, e10, p3]
  · rw [eR, up2_a _ _ (by omega), up2_same, p4]
  · rw [eR, up2_ne _ _ (by omega), up2_a _ _ (by omega), up2_a _ _ (by omega), up2_a _ _ (by omega)]; exact p5
  · rw [eR, up2_a _ _ (by omega), up2_ne _ _ (by omega), up2_a _ _ (by omega), up2_a _ _ (by omega)]; exact p6
  · rw [eR, up2_a _ _ (by omega), up2_a _ _ (by omega), up2_a _ _ (by omega), up2_a _ _ (by omega)]; exact p7 i hi
  · rw [eI, up2_a _ _ (by omega), up2_a _ _ (by omega), up2_a _ _ (by omega), up2_a _ _ (by omega), up2_a _ _ (by omega), up2_a _ _ (by omega)]; exact p8
  · rw [eR, up2_a _ _ (by omega), up2_a _ _ (by omega), up2_a _ _ (by omega), up2_a _ _ (by omega)]; exact p9
  · rw [eI, up2_a _ _ (by omega), up2_a _ _ (by omega), up2_a _ _ (by omega), up2_a _ _ (by omega), up2_a _ _ (by omega), up2_a _ _ (by omega)]; exact p10 i hi
  · exact p11 i q hi
  · show (if h = c.R 11 1 then nI 0 else c.Wr h h) = nI 0
    rw [p4]
    by_cases z : h = k
    · rw [if_pos z]
    · rw [if_neg z]; exact (p12 h (by omega)).1
  · rw [eI, up2_a _ _ (by omega), up2_a _ _ (by omega)]
    by_cases z : h = k
    · subst z; rw [p4, up2_same]
    · rw [up2_ne _ _ (by omega), up2_a _ _ (by omega), up2_a _ _ (by omega), up2_a _ _ (by omega)]; exact (p12 h (by omega)).2.1
  · rw [eI, up2_a _ _ (by omega)]
    by_cases z : h = k
    · subst z; rw [p4, up2_same]
    · rw [up2_ne _ _ (by omega), up2_a _ _ (by omega), up2_a _ _ (by omega), up2_a _ _ (by omega), up2_a _ _ (by omega)]; exact (p12 h (by omega)).2.2.1
  · show up2 c.B 0 (c.R 11 1) false 0 h = false
    rw [p4]
    by_cases z : h = k
    · subst z; exact up2_same _ _ _ _
    · rw [up2_ne _ _ (by omega)]; exact (p12 h (by omega)).2.2.2
theorem PH_GI {hs : Nat} (P : PH c g hs) : GI c g hs (fun _ => nI 0) 0 := by
  obtain ⟨p1, p2, ⟨p5, p6⟩, p7, p8, p9, p10, p11, p12⟩ := P
  exact ⟨p1, p2, by rw [p5, p6], p7, ⟨30, p8, by omega⟩, by omega, fun z hz => (p12 z hz).1, fun z hz => (p12 z hz).2.1, fun z hz => ⟨0, by omega, (p12 z hz).2.2.1, (p12 z hz).2.2.2⟩, fun i k j hi _ e => (by rw [p11 i k hi] at e; cases e), fun i hi => Or.inl (p10 i hi)⟩
end PWS
