/-! a city with one thing more, in the heap -/
section PMK
variable {E : En} {c : Cy} {th : Int32} {ly : Ly} {L : List Nat} {ad : Nat → Nat → Nat} {H H0 : Heap} {A : Nat → Prop}
/-- the reference's city, not yet all in its lists -/
def PN (E : En) (c : Cy) (th : Int32) (ly : Ly) (L : List Nat) (ad : Nat → Nat → Nat) (H : Heap) : Prop := PI E.1 L (cM E c th ly ad) ad H ∧ LyOK E c ly ad ∧ (∀ q, q ∈ L → bA E q) ∧ WF c
theorem WF_mkW (wf : WF c) {w cl : Nat} {sg ow : Int32} (hn : c.R 11 0 < 6) (hw : 4 ≤ w ∧ w ≤ 16) (hcl : cl ≤ 20) (hsg : ∃ q : Nat, 1 ≤ q ∧ q ≤ 9 ∧ sg = nI q) : WF (mkW c w cl sg ow) := by
  obtain ⟨g1, g2, g3, g4, g5, g6, g7, g8, g9, g10⟩ := wf
  have r0 : (mkW c w cl sg ow).R 11 0 = c.R 11 0 + 1 := by simp [mkW_R, up2]
  have r1 : (mkW c w cl sg ow).R 11 1 = c.R 11 1 := rfl
  have r2 : (mkW c w cl sg ow).R 11 2 = c.R 11 2 := rfl
  refine ⟨⟨by rw [r0]; omega, g1.2⟩, ⟨by rw [r0]; exact Nat.le_succ_of_le g2.1, g2.2⟩, fun i hi => ?_, g4, fun j hj => ?_, fun i k j hi hk hs => ?_, g7, g8, fun i hi => ?_, fun i hi => ?_⟩
  · rw [r0] at hi
    by_cases z : i = c.R 11 0
    · subst z; simp [mkW_R, up2]; omega
    · have := g3 i (by omega); simp [mkW_R, up2, z]; exact this
  · have g := g5 j hj
    refine ⟨g.1, by rw [r0]; exact Nat.lt_succ_of_lt g.2.1, g.2.2.1, g.2.2.2.1, ?_⟩
    have e : (mkW c w cl sg ow).R 1 (c.R 6 j) = c.R 1 (c.R 6 j) := by simp [mkW_R, up2, Nat.ne_of_lt g.2.1]
    show _ ≤ (mkW c w cl sg ow).R 1 (c.R 6 j)
    rw [e]; exact g.2.2.2.2
  · rw [r0] at hi
    by_cases z : i = c.R 11 0
    · subst z; simp [mkW_sh] at hs
    · have e : (mkW c w cl sg ow).R 1 i = c.R 1 i := by simp [mkW_R, up2, z]
      rw [e] at hk
      simp only [mkW_sh, if_neg z] at hs
      exact g6 i k j (by omega) hk hs
  · rw [r0] at hi
    by_cases z : i = c.R 11 0
    · subst z; left; simp [mkW_I, up2]
    · have := g9 i (by omega); simp [mkW_I, up2, z]; simpa using this
  · rw [r0] at hi
    by_cases z : i = c.R 11 0
    · subst z; obtain ⟨q, h1, h2, h3⟩ := hsg; exact ⟨q, h1, h2, by simp [mkW_I, up2, h3]⟩
    · obtain ⟨q, h1, h2, h3⟩ := g10 i (by omega); exact ⟨q, h1, h2, by simp [mkW_I, up2, z, h3]⟩
theorem WF_mkH (wf : WF c) {sp : Nat} {cr sl rd : Int32} (hn : c.R 11 1 < 8) (hs : 1 ≤ sp ∧ sp ≤ 9) : WF (mkH c sp cr sl rd) := by
  obtain ⟨g1, g2, g3, g4, g5, g6, g7, g8, g9, g10⟩ := wf
  have r1 : (mkH c sp cr sl rd).R 11 1 = c.R 11 1 + 1 := by simp [mkH_R, up2]
  refine ⟨⟨g1.1, by rw [r1]; omega, g1.2.2⟩, ⟨g2.1, by rw [r1]; exact Nat.le_succ_of_le g2.2.1, g2.2.2⟩, g3, fun h hh => ?_, fun j hj => ?_, g6, g7, fun h k hh hk => ?_, g9, g10⟩
  · rw [r1] at hh
    by_cases z : h = c.R 11 1
    · subst z; simp [mkH_R, up2]; omega
    · have := g4 h (by omega); simp [mkH_R, up2, z]; exact this
  · have g := g5 j hj
    exact ⟨by rw [r1]; exact Nat.lt_succ_of_lt g.1, g.2⟩
  · rw [r1] at hh hk
    by_cases z : h = c.R 11 1
    · subst z; simp [mkH_Wr]
    · simp only [mkH_Wr, if_neg z]; exact g8 h k (by omega) (by omega)
theorem WF_mkL (wf : WF c) {h a f w kd : Nat} {wb nt : Int32} {lg : Bool} (hn : c.R 11 2 < 60) (hh : h < c.R 11 1) (ha : a < c.R 11 0) (hk : kd < 4) (hw : 1 ≤ w) (hf : f + w ≤ c.R 1 a) : WF (mkL c h a f w kd wb nt lg) := by
  obtain ⟨g1, g2, g3, g4, g5, g6, g7, g8, g9, g10⟩ := wf
  have r2 : (mkL c h a f w kd wb nt lg).R 11 2 = c.R 11 2 + 1 := by simp [mkL_R, up2]
  refine ⟨⟨g1.1, g1.2.1, by rw [r2]; omega⟩, ⟨g2.1, g2.2.1, by rw [r2]; exact Nat.le_succ_of_le g2.2.2⟩, g3, g4, fun j hj => ?_, fun i k j hi hk2 hs => by rw [r2]; exact Nat.lt_succ_of_lt (g6 i k j hi hk2 hs), g7, g8, g9, g10⟩
  rw [r2] at hj
  by_cases z : j = c.R 11 2
  · subst z
    refine ⟨by simp [mkL_R, up2]; exact hh, by simp [mkL_R, up2]; exact ha, by simp [mkL_R, up2]; exact hk, by simp [mkL_R, up2]; exact hw, ?_⟩
    have e1 : (mkL c h a f w kd wb nt lg).R 6 (c.R 11 2) = a := by simp [mkL_R, up2]
    have e2 : (mkL c h a f w kd wb nt lg).R 7 (c.R 11 2) = f := by simp [mkL_R, up2]
    have e3 : (mkL c h a f w kd wb nt lg).R 8 (c.R 11 2) = w := by simp [mkL_R, up2]
    rw [e1, e2, e3]; exact hf
  · have g := g5 j (by omega)
    have e1 : (mkL c h a f w kd wb nt lg).R 6 j = c.R 6 j := by simp [mkL_R, up2, z]
    have e2 : (mkL c h a f w kd wb nt lg).R 7 j = c.R 7 j := by simp [mkL_R, up2, z]
    have e3 : (mkL c h a f w kd wb nt lg).R 8 j = c.R 8 j := by simp [mkL_R, up2, z]
    have e4 : (mkL c h a f w kd wb nt lg).R 5 j = c.R 5 j := by simp [mkL_R, up2, z]
    have e5 : (mkL c h a f w kd wb nt lg).R 9 j = c.R 9 j := by simp [mkL_R, up2, z]
    rw [e1, e2, e3, e4, e5]; exact g
theorem WF_lsC (wf : WF c) {i : Nat} (hi : i < 3) (hn : c.R 10 i < c.R 11 i) : WF (lsC c i) := by
  obtain ⟨g1, g2, g⟩ := wf
  refine ⟨g1, ?_, g⟩
  match i, hi, hn with
  | 0, _, hn => exact ⟨by simp [lsC, Cy.R, up2]; exact hn, g2.2.1, g2.2.2⟩
  | 1, _, hn => exact ⟨g2.1, by simp [lsC, Cy.R, up2]; exact hn, g2.2.2⟩
  | 2, _, hn => exact ⟨g2.1, g2.2.1, by simp [lsC, Cy.R, up2]; exact hn⟩
theorem Ly_ls {ad2 : Nat → Nat → Nat} {i p : Nat} {md : Int32} (h : LyOK E c ly ad) (b : ∀ k j, ¬ (k = 2 ∧ j = i) → ad2 k j = ad k j) (hp : c.R 10 i + 1 ≤ p ∧ p ≤ 100) : LyOK E (lsC c i) (lsY ly i md p) ad2 := by
  intro j hj
  by_cases z : j = i
  · subst z
    refine ⟨?_, ?_, fun h9 => ?_⟩
    · simp [lsC, lsY, Cy.R, up2]; exact hp.1
    · simp [lsY]; exact hp.2
    · simp [lsY] at h9; omega
  · obtain ⟨h1, h2, h3⟩ := h j hj
    have e1 : (lsY ly i md p).2 j = ly.2 j := by simp [lsY, z]
    have e2 : (lsC c i).R 10 j = c.R 10 j := by simp [lsC, Cy.R, up2, z]
    rw [e1, e2, b 2 j (fun q => z q.2)]
    exact ⟨h1, h2, h3⟩
theorem lX_add {n i : Nat} {md : Int32} {sz : Nat} (hi : i < 3) (hX : PX E c ly L ad H0) (hB : adB sz E L (cX E c ly ad) ad i n md H) (hn : c.R 10 i = n) (hlt : n < c.R 11 i) (hA : ∀ q, q ∈ L → A q) (hN : ∀ q, sz ≤ q → A q) (hAb : ∀ q, A q → bA E q) : ∃ (L2 : List Nat) (ly2 : Ly) (ad2 : Nat → Nat → Nat), PX E (lsC c i) ly2 L2 ad2 H ∧ (∀ q, q ∈ L2 → A q) ∧ (∀ k j, ¬ (k = 2 ∧ j = i) → ad2 k j = ad k j) := by
  obtain ⟨hP, hly, hLb, wf⟩ := hX
  obtain ⟨L2, ad2, p, h1, h2, h3, h4, h5, h6⟩ := hB
  have hA2 : ∀ q, q ∈ L2 → A q := fun q h => (h3 q h).elim (hA q) (hN q)
  exact ⟨L2, lsY ly i md p, ad2, ⟨h1.ext (cX_add hi hn h2 h5), Ly_ls hly h2 ⟨by omega, h6⟩, fun q h => hAb q (hA2 q h), WF_lsC wf hi (by omega)⟩, hA2, h2⟩
theorem lM_add {n i : Nat} {md : Int32} {sz : Nat} (hi : i < 3) (hX : PN E c th ly L ad H0) (hB : adB sz E L (cM E c th ly ad) ad i n md H) (hn : c.R 10 i = n) (hlt : n < c.R 11 i) (hA : ∀ q, q ∈ L → A q) (hN : ∀ q, sz ≤ q → A q) (hAb : ∀ q, A q → bA E q) (heq : EqM (lsC c i)) : ∃ (L2 : List Nat) (ly2 : Ly) (ad2 : Nat → Nat → Nat), PM E (lsC c i) th ly2 L2 ad2 H ∧ (∀ q, q ∈ L2 → A q) ∧ (∀ k j, ¬ (k = 2 ∧ j = i) → ad2 k j = ad k j) := by
  obtain ⟨hP, hly, hLb, wf⟩ := hX
  obtain ⟨L2, ad2, p, h1, h2, h3, h4, h5, h6⟩ := hB
  have hA2 : ∀ q, q ∈ L2 → A q := fun q h => (h3 q h).elim (hA q) (hN q)
  exact ⟨L2, lsY ly i md p, ad2, ⟨h1.ext (cM_add hi hn h2 h5), Ly_ls hly h2 ⟨by omega, h6⟩, fun q h => hAb q (hA2 q h), WF_lsC wf hi (by omega), heq⟩, hA2, h2⟩
theorem EqM_W (h : EqM c) {w cl : Nat} {sg ow : Int32} : EqM (lsC (mkW c w cl sg ow) 0) := ⟨by simp [lsC, Cy.R, mkW, up2]; exact h.1, h.2.1, h.2.2⟩
theorem EqM_H (h : EqM c) {sp : Nat} {cr sl rd : Int32} : EqM (lsC (mkH c sp cr sl rd) 1) := ⟨h.1, by simp [lsC, Cy.R, mkH, up2]; exact h.2.1, h.2.2⟩
theorem EqM_L (h : EqM c) {h' a f w kd : Nat} {wb nt : Int32} {lg : Bool} : EqM (lsC (mkL c h' a f w kd wb nt lg) 2) := ⟨h.1, h.2.1, by simp [lsC, Cy.R, mkL, up2]; exact h.2.2⟩
theorem pX_new {k n q : Nat} {e : va_E} (hX : PX E c ly L ad H0) (hQ : PI E.1 (L ++ [q]) (ctu (cX E c ly ad) k n e) (up2 ad k n q) H) (hA : ∀ z, z ∈ L → A z) (hAq : A q) (hAb : ∀ z, A z → bA E z) (hn : cX E c ly ad k n = none) : ∃ L2, PI E.1 L2 (ctu (cX E c ly ad) k n e) (up2 ad k n q) H ∧ PX E c ly L2 ad H ∧ (∀ z, z ∈ L2 → A z) := by
  have hA2 : ∀ z, z ∈ L ++ [q] → A z := fun z h => (List.mem_append.mp h).elim (hA z) (fun h => by rw [List.mem_singleton.mp h]; exact hAq)
  refine ⟨L ++ [q], hQ, ⟨hQ.sub fun k' i' x hx => ?_, hX.2.1, fun z h => hAb z (hA2 z h), hX.2.2.2⟩, hA2⟩
  have h9 : ¬ (k' = k ∧ i' = n) := fun z => by rw [z.1, z.2, hn] at hx; cases hx
  exact ⟨(ctu_n h9).trans hx, (up2_ne ad q h9).symm⟩
theorem pM_new {k n q : Nat} {e : va_E} (hX : PM E c th ly L ad H0) (hQ : PI E.1 (L ++ [q]) (ctu (cM E c th ly ad) k n e) (up2 ad k n q) H) (hA : ∀ z, z ∈ L → A z) (hAq : A q) (hAb : ∀ z, A z → bA E z) (hn : cM E c th ly ad k n = none) : ∃ L2, PI E.1 L2 (ctu (cM E c th ly ad) k n e) (up2 ad k n q) H ∧ PM E c th ly L2 ad H ∧ (∀ z, z ∈ L2 → A z) := by
  have hA2 : ∀ z, z ∈ L ++ [q] → A z := fun z h => (List.mem_append.mp h).elim (hA z) (fun h => by rw [List.mem_singleton.mp h]; exact hAq)
  refine ⟨L ++ [q], hQ, ⟨hQ.sub fun k' i' x hx => ?_, hX.2.1, fun z h => hAb z (hA2 z h), hX.2.2.2⟩, hA2⟩
  have h9 : ¬ (k' = k ∧ i' = n) := fun z => by rw [z.1, z.2, hn] at hx; cases hx
  exact ⟨(ctu_n h9).trans hx, (up2_ne ad q h9).symm⟩
theorem pX_W {w cl : Nat} {sg ow : Int32} {L3 : List Nat} {q q2 : Nat} (hX : PX E c ly L ad H0) (hP : PI E.1 L3 (ctu (ctu (cX E c ly ad) 4 (c.R 11 0) (.inl (E.2 2, w, .inr (.inr (.inr (.inr (fun _ => none))))))) 3 (c.R 11 0) (.inr (4, [.int (nI (c.R 11 0)), .int (nI w), .int sg, .int ow, .int (nI cl), .ref q2, .int (-1), .int (-1), .int (nI 0), .int (-1)]))) (up2 (up2 ad 3 (c.R 11 0) q) 4 (c.R 11 0) q2) H) (hA : ∀ z, z ∈ L3 → A z) (hAb : ∀ z, A z → bA E z) (wf2 : WF (mkW c w cl sg ow)) : ∃ (L3 : List Nat) (ad3 : Nat → Nat → Nat), PX E (mkW c w cl sg ow) ly L3 ad3 H ∧ (∀ z, z ∈ L3 → A z) ∧ ad3 3 (c.R 11 0) = q ∧ (∀ k z, ¬ (k = 3 ∧ z = (c.R 11 0)) → ¬ (k = 4 ∧ z = (c.R 11 0)) → ad3 k z = ad k z) := by
  have b : ∀ k z, ¬ (k = 3 ∧ z = (c.R 11 0)) → ¬ (k = 4 ∧ z = (c.R 11 0)) → (up2 (up2 ad 3 (c.R 11 0) q) 4 (c.R 11 0) q2) k z = ad k z := fun k z h1 h2 => (up2_ne _ _ h2).trans (up2_ne _ _ h1)
  refine ⟨L3, _, ⟨hP.cg (nX_W hX.2.2.2 b (up2_same _ _ _ _)), hX.2.1, fun z h => hAb z (hA z h), wf2⟩, hA, (up2_ne _ _ (by omega)).trans (up2_same _ _ _ _), b⟩
theorem pX_H {sp : Nat} {cr sl rd : Int32} {L3 : List Nat} {q q2 : Nat} (hX : PX E c ly L ad H0) (hP : PI E.1 L3 (ctu (ctu (cX E c ly ad) 6 (c.R 11 1) (.inl (E.2 1, 8, .inl (fun _ => 0)))) 5 (c.R 11 1) (.inr (2, [.int (nI (c.R 11 1)), .int cr, .int (nI sp), .int sl, .int rd, .ref q2, .int (nI 0), .int (nI 0), .int (nI 0), .int (nI 0), .int (nI 0)]))) (up2 (up2 ad 5 (c.R 11 1) q) 6 (c.R 11 1) q2) H) (hA : ∀ z, z ∈ L3 → A z) (hAb : ∀ z, A z → bA E z) (wf2 : WF (mkH c sp cr sl rd)) : ∃ (L3 : List Nat) (ad3 : Nat → Nat → Nat), PX E (mkH c sp cr sl rd) ly L3 ad3 H ∧ (∀ z, z ∈ L3 → A z) ∧ ad3 5 (c.R 11 1) = q ∧ (∀ k z, ¬ (k = 5 ∧ z = (c.R 11 1)) → ¬ (k = 6 ∧ z = (c.R 11 1)) → ad3 k z = ad k z) := by
  have b : ∀ k z, ¬ (k = 5 ∧ z = (c.R 11 1)) → ¬ (k = 6 ∧ z = (c.R 11 1)) → (up2 (up2 ad 5 (c.R 11 1) q) 6 (c.R 11 1) q2) k z = ad k z := fun k z h1 h2 => (up2_ne _ _ h2).trans (up2_ne _ _ h1)
  refine ⟨L3, _, ⟨hP.cg (nX_H hX.2.2.2 b (up2_same _ _ _ _)), hX.2.1, fun z h => hAb z (hA z h), wf2⟩, hA, (up2_ne _ _ (by omega)).trans (up2_same _ _ _ _), b⟩
theorem pX_L {h a f w kd : Nat} {wb nt : Int32} {lg : Bool} {L3 : List Nat} {q : Nat} (hX : PX E c ly L ad H0) (hz1 : nt = nI 0) (hz2 : lg = false) (hh : h < c.R 11 1) (ha : a < c.R 11 0) (hP : PI E.1 L3 (ctu (cX E c ly ad) 7 (c.R 11 2) (.inr (3, [.int (nI (c.R 11 2)), .ref (ad 5 h), .ref (ad 3 a), .int (nI f), .int (nI w), .int (nI kd), .int wb, .int (nI 0), .int (nI 0), .int (nI 0), .int (nI 0)]))) (up2 ad 7 (c.R 11 2) q) H) (hA : ∀ z, z ∈ L3 → A z) (hAb : ∀ z, A z → bA E z) (wf2 : WF (mkL c h a f w kd wb nt lg)) : ∃ (L3 : List Nat) (ad3 : Nat → Nat → Nat), PX E (mkL c h a f w kd wb nt lg) ly L3 ad3 H ∧ (∀ z, z ∈ L3 → A z) ∧ ad3 7 (c.R 11 2) = q ∧ (∀ k z, ¬ (k = 7 ∧ z = (c.R 11 2)) → ad3 k z = ad k z) := by
  have b : ∀ k z, ¬ (k = 7 ∧ z = (c.R 11 2)) → (up2 ad 7 (c.R 11 2) q) k z = ad k z := fun k z h1 => up2_ne _ _ h1
  refine ⟨L3, _, ⟨hP.cg (nX_L hX.2.2.2 b hz1 hz2 hh ha), hX.2.1, fun z h => hAb z (hA z h), wf2⟩, hA, up2_same _ _ _ _, b⟩
theorem pM_W {w cl : Nat} {sg ow : Int32} {L3 : List Nat} {q q2 : Nat} (hX : PM E c th ly L ad H0) (hP : PI E.1 L3 (ctu (ctu (cM E c th ly ad) 4 (c.R 11 0) (.inl (E.2 1, w, .inl (fun y => if y < w then -1 else 0)))) 3 (c.R 11 0) (.inr (8, [.int sg, .int ow, .int (nI cl), .ref q2, .int (-1), .int (-1), .int (-1), .int (-1)]))) (up2 (up2 ad 3 (c.R 11 0) q) 4 (c.R 11 0) q2) H) (hA : ∀ z, z ∈ L3 → A z) (hAb : ∀ z, A z → bA E z) (wf2 : WF (mkW c w cl sg ow)) : ∃ (L3 : List Nat) (ad3 : Nat → Nat → Nat), PN E (mkW c w cl sg ow) th ly L3 ad3 H ∧ (∀ z, z ∈ L3 → A z) ∧ ad3 3 (c.R 11 0) = q ∧ (∀ k z, ¬ (k = 3 ∧ z = (c.R 11 0)) → ¬ (k = 4 ∧ z = (c.R 11 0)) → ad3 k z = ad k z) := by
  have b : ∀ k z, ¬ (k = 3 ∧ z = (c.R 11 0)) → ¬ (k = 4 ∧ z = (c.R 11 0)) → (up2 (up2 ad 3 (c.R 11 0) q) 4 (c.R 11 0) q2) k z = ad k z := fun k z h1 h2 => (up2_ne _ _ h2).trans (up2_ne _ _ h1)
  refine ⟨L3, _, ⟨hP.cg (nM_W hX.2.2.2.1 b (up2_same _ _ _ _)), hX.2.1, fun z h => hAb z (hA z h), wf2⟩, hA, (up2_ne _ _ (by omega)).trans (up2_same _ _ _ _), b⟩
theorem pM_H {sp : Nat} {cr sl rd : Int32} {L3 : List Nat} {q q2 : Nat} (hX : PM E c th ly L ad H0) (hP : PI E.1 L3 (ctu (ctu (cM E c th ly ad) 6 (c.R 11 1) (.inl (E.2 1, 8, .inl (fun _ => 0)))) 5 (c.R 11 1) (.inr (6, [.int cr, .int (nI sp), .int sl, .int rd, .int (nI 0), .int (nI 0), .int (nI 0), .int (nI 0), .int (nI 0), .ref q2]))) (up2 (up2 ad 5 (c.R 11 1) q) 6 (c.R 11 1) q2) H) (hA : ∀ z, z ∈ L3 → A z) (hAb : ∀ z, A z → bA E z) (wf2 : WF (mkH c sp cr sl rd)) : ∃ (L3 : List Nat) (ad3 : Nat → Nat → Nat), PN E (mkH c sp cr sl rd) th ly L3 ad3 H ∧ (∀ z, z ∈ L3 → A z) ∧ ad3 5 (c.R 11 1) = q ∧ (∀ k z, ¬ (k = 5 ∧ z = (c.R 11 1)) → ¬ (k = 6 ∧ z = (c.R 11 1)) → ad3 k z = ad k z) := by
  have b : ∀ k z, ¬ (k = 5 ∧ z = (c.R 11 1)) → ¬ (k = 6 ∧ z = (c.R 11 1)) → (up2 (up2 ad 5 (c.R 11 1) q) 6 (c.R 11 1) q2) k z = ad k z := fun k z h1 h2 => (up2_ne _ _ h2).trans (up2_ne _ _ h1)
  refine ⟨L3, _, ⟨hP.cg (nM_H hX.2.2.2.1 b (up2_same _ _ _ _)), hX.2.1, fun z h => hAb z (hA z h), wf2⟩, hA, (up2_ne _ _ (by omega)).trans (up2_same _ _ _ _), b⟩
theorem pM_L {h a f w kd : Nat} {wb nt : Int32} {lg : Bool} {L3 : List Nat} {q : Nat} {W0 : Nat → Nat → Int32} {S0 : Nat → Nat → Option Nat} (wf : WF (c.R, c.I, c.B, W0, S0)) (hly : LyOK E c ly ad) (hh : h < c.R 11 1) (hP : PI E.1 L3 (ctu (cM E c th ly ad) 7 (c.R 11 2) (.inr (7, [.int (nI h), .int (nI a), .int (nI f), .int (nI w), .int (nI kd), .int (c.I 9 h + wb), .int (c.I 10 h - wb), .int nt, .int (bI lg), .int (nI 0), .int (nI 0)]))) (up2 ad 7 (c.R 11 2) q) H) (hA : ∀ z, z ∈ L3 → A z) (hAb : ∀ z, A z → bA E z) (wf2 : WF (mkL c h a f w kd wb nt lg)) : ∃ (L3 : List Nat) (ad3 : Nat → Nat → Nat), PN E (mkL c h a f w kd wb nt lg) th ly L3 ad3 H ∧ (∀ z, z ∈ L3 → A z) ∧ ad3 7 (c.R 11 2) = q ∧ (∀ k z, ¬ (k = 7 ∧ z = (c.R 11 2)) → ad3 k z = ad k z) := by
  have b : ∀ k z, ¬ (k = 7 ∧ z = (c.R 11 2)) → (up2 ad 7 (c.R 11 2) q) k z = ad k z := fun k z h1 => up2_ne _ _ h1
  refine ⟨L3, _, ⟨hP.cg (nM_L wf b hh), hly, fun z h => hAb z (hA z h), wf2⟩, hA, up2_same _ _ _ _, b⟩
end PMK
