/-! a city with one thing more -/
section MOR
variable {E : En} {c : Cy} {th : Int32} {ly : Ly} {ad ad2 : Nat → Nat → Nat}
/-- the addresses agree where something lies -/
def AdS (c : Cy) (ad ad2 : Nat → Nat → Nat) : Prop := (∀ i, ad2 0 i = ad 0 i) ∧ (∀ i, ad2 1 i = ad 1 i) ∧ (∀ i, ad2 2 i = ad 2 i) ∧ (∀ i, i < c.R 11 0 → ad2 3 i = ad 3 i ∧ ad2 4 i = ad 4 i) ∧ (∀ i, i < c.R 11 1 → ad2 5 i = ad 5 i ∧ ad2 6 i = ad 6 i) ∧ (∀ i, i < c.R 11 2 → ad2 7 i = ad 7 i)
theorem AdS.l (h : AdS c ad ad2) (wf : WF c) {i : Nat} (hi : i < 3) : lsf (c.R 10 i) (ad2 (3 + 2 * i)) = lsf (c.R 10 i) (ad (3 + 2 * i)) := by
  funext j
  unfold lsf
  by_cases hj : j < c.R 10 i
  · rw [if_pos hj, if_pos hj]
    have h0 := wf.sw; have h1 := wf.sh'; have h2 := wf.sl
    match i, hi, hj with
    | 0, _, hj => rw [(h.2.2.2.1 j (by omega)).1]
    | 1, _, hj => rw [(h.2.2.2.2.1 j (by omega)).1]
    | 2, _, hj => rw [h.2.2.2.2.2 j (by omega)]
  · rw [if_neg hj, if_neg hj]
theorem cX_ad (h : AdS c ad ad2) (wf : WF c) : ∀ k z, cX E c ly ad2 k z = cX E c ly ad k z := by
  intro k z
  obtain ⟨h0, h1, h2, h3, h5, h7⟩ := id h
  match k with
  | 0 => unfold cX; simp only [xRo, h1]
  | 1 => unfold cX; simp only [oLs, h2]
  | 2 =>
    unfold cX
    by_cases q : z < 3 ∧ 0 < ly.2 z
    · simp only [if_pos q, oLa, h.l wf q.1]
    · simp only [if_neg q]
  | 3 =>
    unfold cX
    by_cases q : z < c.R 11 0
    · simp only [if_pos q, xWa, (h3 z q).2]
    · simp only [if_neg q]
  | 4 =>
    unfold cX
    by_cases q : z < c.R 11 0
    · simp only [if_pos q, xSh]
      have : (fun k => (c.sh z k).map (ad2 7)) = fun k => (c.sh z k).map (ad 7) := by
        funext k
        sorry
      rw [this]
    · simp only [if_neg q]
  | 5 =>
    unfold cX
    by_cases q : z < c.R 11 1
    · simp only [if_pos q, xHa, (h5 z q).2]
    · simp only [if_neg q]
  | 6 => rfl
  | 7 =>
    unfold cX
    by_cases q : z < c.R 11 2
    · simp only [if_pos q, xLa, (h5 _ (wf.lh q)).1, (h3 _ (wf.lw q)).1]
    · simp only [if_neg q]
  | k + 8 => rfl
end MOR
