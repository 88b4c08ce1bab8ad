/-! a city with one thing more -/
theorem arrV_cg {cI : ClassId} {N : Nat} {f g : Nat → Value} (h : ∀ j, j < N → f j = g j) : arrV cI N f = arrV cI N g := by
  unfold arrV
  rw [show (fun j : Fin N => f j.val) = fun j : Fin N => g j.val from funext fun j => h j.val j.isLt]
/-- the same cell -/
def eqE (y x : va_E) : Prop := y = x ∨ ∃ a b : ClassId × vp_A, y = .inl a ∧ x = .inl b ∧ vp_cell a.1 a.2 = vp_cell b.1 b.2
def eqO (o o2 : Option va_E) : Prop := o = o2 ∨ ∃ y x, o = some y ∧ o2 = some x ∧ eqE y x
theorem eqE_at {D : va_G} {q : Nat} {y x : va_E} {H : Heap} (h : va_at D vwCl (q, y) H) (e : eqE y x) : va_at D vwCl (q, x) H := by
  rcases e with e | ⟨a, b, e1, e2, e3⟩
  · rw [← e]; exact h
  · subst e1; subst e2
    show H[q]? = some (vp_cell b.1 b.2)
    rw [← e3]; exact h
theorem eqE_i {cI : ClassId} {n : Nat} {f g : Nat → Int32} (h : ∀ j, j < n → f j = g j) : eqE (.inl (cI, n, .inl f)) (.inl (cI, n, .inl g)) := by
  exact Or.inr ⟨_, _, rfl, rfl, (vp_cell_i cI n f).trans ((arrV_cg fun j hj => by rw [h j hj]).trans (vp_cell_i cI n g).symm)⟩
theorem eqE_q {cI : ClassId} {n : Nat} {f g : Nat → Option Nat} (h : ∀ j, j < n → f j = g j) : eqE (.inl (cI, n, .inr (.inr (.inr (.inr f))))) (.inl (cI, n, .inr (.inr (.inr (.inr g))))) := by
  exact Or.inr ⟨_, _, rfl, rfl, (vp_cell_q cI n f).trans ((arrV_cg fun j hj => by rw [h j hj]).trans (vp_cell_q cI n g).symm)⟩
theorem PI.cg {D : va_G} {L : List Nat} {ct ct2 : Nat → Nat → Option va_E} {ad : Nat → Nat → Nat} {H : Heap} (h : PI D L ct ad H) (e : ∀ k i, eqO (ct k i) (ct2 k i)) : PI D L ct2 ad H := by
  obtain ⟨f, hP, hD, hm, hi⟩ := h
  have key : ∀ k i x, ct2 k i = some x → ∃ y, ct k i = some y ∧ eqE y x := fun k i x hx => by
    rcases e k i with e1 | ⟨y, z, e1, e2, e3⟩
    · exact ⟨x, e1.trans hx, Or.inl rfl⟩
    · exact ⟨y, e1, by rw [hx] at e2; rw [Option.some.inj e2]; exact e3⟩
  classical
  let g : Nat → va_E := fun q => if hq : ∃ x, ∃ k i, ct2 k i = some x ∧ ad k i = q then hq.choose else f q
  have hg : ∀ k i x, ct2 k i = some x → g (ad k i) = x := fun k i x hx => by
    have hq : ∃ x, ∃ k' i', ct2 k' i' = some x ∧ ad k' i' = ad k i := ⟨x, k, i, hx, rfl⟩
    show (if hq : ∃ x, ∃ k' i', ct2 k' i' = some x ∧ ad k' i' = ad k i then hq.choose else f (ad k i)) = x
    rw [dif_pos hq]
    obtain ⟨k', i', e1, e2⟩ := hq.choose_spec
    obtain ⟨y, hy, -⟩ := key k i x hx
    obtain ⟨y', hy', -⟩ := key k' i' _ e1
    obtain ⟨e3, e4⟩ := hi k' i' k i y' y hy' hy e2
    subst e3; subst e4
    exact Option.some.inj (e1.symm.trans hx)
  refine ⟨g, ?_, ?_, fun k i x hx => ?_, fun k i k' i' x x' hx hx' hq => ?_⟩
  · intro n q hn
    unfold va_pl at hn
    rw [List.getElem?_map] at hn
    cases hL : L[n]? with
    | none => rw [hL] at hn; cases hn
    | some a =>
      rw [hL] at hn
      have e1 : (a, g a) = q := Option.some.inj hn
      have h0 : va_at D vwCl (a, f a) H := hP n (a, f a) (by unfold va_pl; rw [List.getElem?_map, hL]; rfl)
      rw [← e1]
      by_cases hq : ∃ x, ∃ k i, ct2 k i = some x ∧ ad k i = a
      · obtain ⟨x, k, i, e2, e3⟩ := hq
        subst e3
        obtain ⟨y, hy, e4⟩ := key k i x e2
        rw [hg k i x e2]
        rw [(hm k i y hy).2] at h0
        exact eqE_at h0 e4
      · have : g a = f a := dif_neg hq
        rw [this]; exact h0
  · refine ⟨fun i j p q hp hq he => ?_, fun k q hq => ?_⟩
    · have r : ∀ n (q : Nat × va_E), (va_pl L g)[n]? = some q → (va_pl L f)[n]? = some (q.1, f q.1) := fun n q h => by
        unfold va_pl at h ⊢
        rw [List.getElem?_map] at h ⊢
        cases hL : L[n]? with
        | none => rw [hL] at h; cases h
        | some a => rw [hL] at h; have : (a, g a) = q := Option.some.inj h; rw [← this]; rfl
      exact hD.1 i j _ _ (r i p hp) (r j q hq) he
    · unfold va_pl at hq
      rw [List.getElem?_map] at hq
      cases hL : L[k]? with
      | none => rw [hL] at hq; cases hq
      | some a =>
        rw [hL] at hq
        have : (a, g a) = q := Option.some.inj hq
        rw [← this]
        exact List.mem_of_getElem? hL
  · obtain ⟨y, hy, -⟩ := key k i x hx
    exact ⟨(hm k i y hy).1, hg k i x hx⟩
  · obtain ⟨y, hy, -⟩ := key k i x hx
    obtain ⟨y', hy', -⟩ := key k' i' x' hx'
    exact hi k i k' i' y y' hy hy' hq
theorem lsf_cg {n : Nat} {g g2 : Nat → Nat} (h : ∀ j, j < n → g j = g2 j) : lsf n g = lsf n g2 := by
  funext j
  unfold lsf
  by_cases hj : j < n
  · rw [if_pos hj, if_pos hj, h j hj]
  · rw [if_neg hj, if_neg hj]
def lsC (c : Cy) (i : Nat) : Cy := (up2 c.R 10 i (c.R 10 i + 1), c.I, c.B, c.Wr, c.sh)
def lsY (ly : Ly) (i : Nat) (md : Int32) (p : Nat) : Ly := (fun j => if j = i then md else ly.1 j, fun j => if j = i then p else ly.2 j)

section MOX
variable {E : En} {c : Cy} {th : Int32} {ly : Ly} {ad ad2 : Nat → Nat → Nat}
theorem cX_add {i n p : Nat} {md : Int32} (hi : i < 3) (hn : c.R 10 i = n) (h : ∀ k j, ¬ (k = 2 ∧ j = i) → ad2 k j = ad k j) (hp : n + 1 ≤ p) : ∀ k z, cX E (lsC c i) (lsY ly i md p) ad2 k z = ctu (ctu (cX E c ly ad) 2 i (.inl (E.2 3, p, .inr (.inr (.inr (.inr (lsf (n + 1) (ad (3 + 2 * i))))))))) 1 i (.inr (1, [.int md, .ref (ad2 2 i), .int (nI (n + 1))])) k z := by
  intro k z
  have a1 : ∀ k j, ¬ k = 2 → ad2 k j = ad k j := fun k j w => h k j (fun q => w q.1)
  match k with
  | 0 => rw [ctu_n (by omega), ctu_n (by omega)]; unfold cX; simp only [xRo, a1 1 _ (by decide)]; rfl
  | 1 =>
    by_cases hz : z = i
    · subst hz
      rw [ctu_self]; unfold cX; simp only [if_pos hi, oLs]; simp [lsC, lsY, Cy.R, up2, ← hn]
    · rw [ctu_n (by omega), ctu_n (by omega)]; unfold cX
      by_cases q : z < 3
      · simp only [if_pos q, oLs]; rw [h 2 z (fun w => hz w.2)]; simp [lsC, lsY, Cy.R, up2, hz]
      · simp only [if_neg q]
  | 2 =>
    have e : ad2 (3 + 2 * z) = ad (3 + 2 * z) := funext fun j => a1 _ _ (by omega)
    by_cases hz : z = i
    · subst hz
      have w : z < 3 ∧ 0 < (lsY ly z md p).2 z := ⟨hi, by simp [lsY]; omega⟩
      rw [ctu_n (by omega), ctu_self]; unfold cX; simp only [if_pos w, oLa, e]; simp [lsC, lsY, Cy.R, up2, ← hn]
    · have e1 : (lsY ly i md p).2 z = ly.2 z := by simp [lsY, hz]
      have e2 : (lsC c i).R 10 z = c.R 10 z := by simp [lsC, Cy.R, up2, hz]
      rw [ctu_n (by omega), ctu_n (by omega)]; unfold cX; simp only [oLa, e, e1, e2]
  | 3 =>
    rw [ctu_n (by omega), ctu_n (by omega)]
    show (if z < c.R 11 0 then (some (.inr (4, xWa c ad2 z)) : Option va_E) else none) = (if z < c.R 11 0 then (some (.inr (4, xWa c ad z)) : Option va_E) else none)
    have a9 : ad2 7 = ad 7 := funext fun j => a1 7 j (by decide)
    simp only [xWa, a1 3 _ (by decide), a1 4 _ (by decide), a1 5 _ (by decide), a1 6 _ (by decide), a9]
  | 4 =>
    rw [ctu_n (by omega), ctu_n (by omega)]
    show (if z < c.R 11 0 then (some (.inl (xSh E c ad2 z)) : Option va_E) else none) = (if z < c.R 11 0 then (some (.inl (xSh E c ad z)) : Option va_E) else none)
    have a9 : ad2 7 = ad 7 := funext fun j => a1 7 j (by decide)
    simp only [xSh, a1 3 _ (by decide), a1 4 _ (by decide), a1 5 _ (by decide), a1 6 _ (by decide), a9]
  | 5 =>
    rw [ctu_n (by omega), ctu_n (by omega)]
    show (if z < c.R 11 1 then (some (.inr (2, xHa c ad2 z)) : Option va_E) else none) = (if z < c.R 11 1 then (some (.inr (2, xHa c ad z)) : Option va_E) else none)
    have a9 : ad2 7 = ad 7 := funext fun j => a1 7 j (by decide)
    simp only [xHa, a1 3 _ (by decide), a1 4 _ (by decide), a1 5 _ (by decide), a1 6 _ (by decide), a9]
  | 6 =>
    rw [ctu_n (by omega), ctu_n (by omega)]
    show (if z < c.R 11 1 then (some (.inl (xWr E c z)) : Option va_E) else none) = (if z < c.R 11 1 then (some (.inl (xWr E c z)) : Option va_E) else none)
    have a9 : ad2 7 = ad 7 := funext fun j => a1 7 j (by decide)
    simp only [xWr, a1 3 _ (by decide), a1 4 _ (by decide), a1 5 _ (by decide), a1 6 _ (by decide), a9]
  | 7 =>
    rw [ctu_n (by omega), ctu_n (by omega)]
    show (if z < c.R 11 2 then (some (.inr (3, xLa c ad2 z)) : Option va_E) else none) = (if z < c.R 11 2 then (some (.inr (3, xLa c ad z)) : Option va_E) else none)
    have a9 : ad2 7 = ad 7 := funext fun j => a1 7 j (by decide)
    simp only [xLa, a1 3 _ (by decide), a1 4 _ (by decide), a1 5 _ (by decide), a1 6 _ (by decide), a9]
  | k + 8 => rw [ctu_n (by omega), ctu_n (by omega)]; rfl
end MOX
section MOM
variable {E : En} {c : Cy} {th : Int32} {ly : Ly} {ad ad2 : Nat → Nat → Nat}
theorem cM_add {i n p : Nat} {md : Int32} (hi : i < 3) (hn : c.R 10 i = n) (h : ∀ k j, ¬ (k = 2 ∧ j = i) → ad2 k j = ad k j) (hp : n + 1 ≤ p) : ∀ k z, cM E (lsC c i) th (lsY ly i md p) ad2 k z = ctu (ctu (cM E c th ly ad) 2 i (.inl (E.2 3, p, .inr (.inr (.inr (.inr (lsf (n + 1) (ad (3 + 2 * i))))))))) 1 i (.inr (1, [.int md, .ref (ad2 2 i), .int (nI (n + 1))])) k z := by
  intro k z
  have a1 : ∀ k j, ¬ k = 2 → ad2 k j = ad k j := fun k j w => h k j (fun q => w q.1)
  match k with
  | 0 => rw [ctu_n (by omega), ctu_n (by omega)]; unfold cM; simp only [mRo, a1 1 _ (by decide)]; rfl
  | 1 =>
    by_cases hz : z = i
    · subst hz
      rw [ctu_self]; unfold cM; simp only [if_pos hi, oLs]; simp [lsC, lsY, Cy.R, up2, ← hn]
    · rw [ctu_n (by omega), ctu_n (by omega)]; unfold cM
      by_cases q : z < 3
      · simp only [if_pos q, oLs]; rw [h 2 z (fun w => hz w.2)]; simp [lsC, lsY, Cy.R, up2, hz]
      · simp only [if_neg q]
  | 2 =>
    have e : ad2 (3 + 2 * z) = ad (3 + 2 * z) := funext fun j => a1 _ _ (by omega)
    by_cases hz : z = i
    · subst hz
      have w : z < 3 ∧ 0 < (lsY ly z md p).2 z := ⟨hi, by simp [lsY]; omega⟩
      rw [ctu_n (by omega), ctu_self]; unfold cM; simp only [if_pos w, oLa, e]; simp [lsC, lsY, Cy.R, up2, ← hn]
    · have e1 : (lsY ly i md p).2 z = ly.2 z := by simp [lsY, hz]
      have e2 : (lsC c i).R 10 z = c.R 10 z := by simp [lsC, Cy.R, up2, hz]
      rw [ctu_n (by omega), ctu_n (by omega)]; unfold cM; simp only [oLa, e, e1, e2]
  | 3 =>
    rw [ctu_n (by omega), ctu_n (by omega)]
    show (if z < c.R 11 0 then (some (.inr (8, mWa c ad2 z)) : Option va_E) else none) = (if z < c.R 11 0 then (some (.inr (8, mWa c ad z)) : Option va_E) else none)
    have a9 : ad2 7 = ad 7 := funext fun j => a1 7 j (by decide)
    simp only [mWa, a1 3 _ (by decide), a1 4 _ (by decide), a1 5 _ (by decide), a1 6 _ (by decide), a9]
  | 4 =>
    rw [ctu_n (by omega), ctu_n (by omega)]
    show (if z < c.R 11 0 then (some (.inl (mSh E c z)) : Option va_E) else none) = (if z < c.R 11 0 then (some (.inl (mSh E c z)) : Option va_E) else none)
    have a9 : ad2 7 = ad 7 := funext fun j => a1 7 j (by decide)
    simp only [mSh, a1 3 _ (by decide), a1 4 _ (by decide), a1 5 _ (by decide), a1 6 _ (by decide), a9]
  | 5 =>
    rw [ctu_n (by omega), ctu_n (by omega)]
    show (if z < c.R 11 1 then (some (.inr (6, mHa c ad2 z)) : Option va_E) else none) = (if z < c.R 11 1 then (some (.inr (6, mHa c ad z)) : Option va_E) else none)
    have a9 : ad2 7 = ad 7 := funext fun j => a1 7 j (by decide)
    simp only [mHa, a1 3 _ (by decide), a1 4 _ (by decide), a1 5 _ (by decide), a1 6 _ (by decide), a9]
  | 6 =>
    rw [ctu_n (by omega), ctu_n (by omega)]
    show (if z < c.R 11 1 then (some (.inl (xWr E c z)) : Option va_E) else none) = (if z < c.R 11 1 then (some (.inl (xWr E c z)) : Option va_E) else none)
    have a9 : ad2 7 = ad 7 := funext fun j => a1 7 j (by decide)
    simp only [xWr, a1 3 _ (by decide), a1 4 _ (by decide), a1 5 _ (by decide), a1 6 _ (by decide), a9]
  | 7 =>
    rw [ctu_n (by omega), ctu_n (by omega)]
    show (if z < c.R 11 2 then (some (.inr (7, mLa c z)) : Option va_E) else none) = (if z < c.R 11 2 then (some (.inr (7, mLa c z)) : Option va_E) else none)
    have a9 : ad2 7 = ad 7 := funext fun j => a1 7 j (by decide)
    simp only [mLa, a1 3 _ (by decide), a1 4 _ (by decide), a1 5 _ (by decide), a1 6 _ (by decide), a9]
  | k + 8 => rw [ctu_n (by omega), ctu_n (by omega)]; rfl
end MOM
theorem bI_0 : bI false = nI 0 := rfl
def mkW (c : Cy) (w cl : Nat) (sg ow : Int32) : Cy := (up2 (up2 (up2 c.R 1 (c.R 11 0) w) 2 (c.R 11 0) cl) 11 0 (c.R 11 0 + 1), up2 (up2 (up2 (up2 (up2 (up2 c.I 2 (c.R 11 0) sg) 3 (c.R 11 0) ow) 4 (c.R 11 0) (-1)) 5 (c.R 11 0) (-1)) 6 (c.R 11 0) (nI 0)) 7 (c.R 11 0) (-1), c.B, c.Wr, fun z k => if z = c.R 11 0 then none else c.sh z k)
def mkH (c : Cy) (sp : Nat) (cr sl rd : Int32) : Cy := (up2 (up2 (up2 c.R 3 (c.R 11 1) 0) 4 (c.R 11 1) sp) 11 1 (c.R 11 1 + 1), up2 (up2 (up2 (up2 (up2 (up2 c.I 8 (c.R 11 1) cr) 9 (c.R 11 1) sl) 10 (c.R 11 1) rd) 11 (c.R 11 1) (nI 0)) 13 (c.R 11 1) (nI 0)) 14 (c.R 11 1) (nI 0), up2 c.B 0 (c.R 11 1) false, fun z k => if z = c.R 11 1 then nI 0 else c.Wr z k, c.sh)
def mkL (c : Cy) (h a f w kd : Nat) (wb nt : Int32) (lg : Bool) : Cy := (up2 (up2 (up2 (up2 (up2 (up2 c.R 5 (c.R 11 2) h) 6 (c.R 11 2) a) 7 (c.R 11 2) f) 8 (c.R 11 2) w) 9 (c.R 11 2) kd) 11 2 (c.R 11 2 + 1), up2 (up2 c.I 15 (c.R 11 2) wb) 16 (c.R 11 2) nt, up2 (up2 (up2 c.B 1 (c.R 11 2) lg) 2 (c.R 11 2) false) 3 (c.R 11 2) false, c.Wr, c.sh)
theorem mkW_R {c : Cy} {w cl : Nat} {sg ow : Int32} : (mkW c w cl sg ow).R = up2 (up2 (up2 c.R 1 (c.R 11 0) w) 2 (c.R 11 0) cl) 11 0 (c.R 11 0 + 1) := rfl
theorem mkW_I {c : Cy} {w cl : Nat} {sg ow : Int32} : (mkW c w cl sg ow).I = up2 (up2 (up2 (up2 (up2 (up2 c.I 2 (c.R 11 0) sg) 3 (c.R 11 0) ow) 4 (c.R 11 0) (-1)) 5 (c.R 11 0) (-1)) 6 (c.R 11 0) (nI 0)) 7 (c.R 11 0) (-1) := rfl
theorem mkW_B {c : Cy} {w cl : Nat} {sg ow : Int32} : (mkW c w cl sg ow).B = c.B := rfl
theorem mkW_Wr {c : Cy} {w cl : Nat} {sg ow : Int32} : (mkW c w cl sg ow).Wr = c.Wr := rfl
theorem mkW_sh {c : Cy} {w cl : Nat} {sg ow : Int32} : (mkW c w cl sg ow).sh = fun z k => if z = c.R 11 0 then none else c.sh z k := rfl
theorem mkH_R {c : Cy} {sp : Nat} {cr sl rd : Int32} : (mkH c sp cr sl rd).R = up2 (up2 (up2 c.R 3 (c.R 11 1) 0) 4 (c.R 11 1) sp) 11 1 (c.R 11 1 + 1) := rfl
theorem mkH_I {c : Cy} {sp : Nat} {cr sl rd : Int32} : (mkH c sp cr sl rd).I = up2 (up2 (up2 (up2 (up2 (up2 c.I 8 (c.R 11 1) cr) 9 (c.R 11 1) sl) 10 (c.R 11 1) rd) 11 (c.R 11 1) (nI 0)) 13 (c.R 11 1) (nI 0)) 14 (c.R 11 1) (nI 0) := rfl
theorem mkH_B {c : Cy} {sp : Nat} {cr sl rd : Int32} : (mkH c sp cr sl rd).B = up2 c.B 0 (c.R 11 1) false := rfl
theorem mkH_Wr {c : Cy} {sp : Nat} {cr sl rd : Int32} : (mkH c sp cr sl rd).Wr = fun z k => if z = c.R 11 1 then nI 0 else c.Wr z k := rfl
theorem mkH_sh {c : Cy} {sp : Nat} {cr sl rd : Int32} : (mkH c sp cr sl rd).sh = c.sh := rfl
theorem mkL_R {c : Cy} {h a f w kd : Nat} {wb nt : Int32} {lg : Bool} : (mkL c h a f w kd wb nt lg).R = up2 (up2 (up2 (up2 (up2 (up2 c.R 5 (c.R 11 2) h) 6 (c.R 11 2) a) 7 (c.R 11 2) f) 8 (c.R 11 2) w) 9 (c.R 11 2) kd) 11 2 (c.R 11 2 + 1) := rfl
theorem mkL_I {c : Cy} {h a f w kd : Nat} {wb nt : Int32} {lg : Bool} : (mkL c h a f w kd wb nt lg).I = up2 (up2 c.I 15 (c.R 11 2) wb) 16 (c.R 11 2) nt := rfl
theorem mkL_B {c : Cy} {h a f w kd : Nat} {wb nt : Int32} {lg : Bool} : (mkL c h a f w kd wb nt lg).B = up2 (up2 (up2 c.B 1 (c.R 11 2) lg) 2 (c.R 11 2) false) 3 (c.R 11 2) false := rfl
theorem mkL_Wr {c : Cy} {h a f w kd : Nat} {wb nt : Int32} {lg : Bool} : (mkL c h a f w kd wb nt lg).Wr = c.Wr := rfl
theorem mkL_sh {c : Cy} {h a f w kd : Nat} {wb nt : Int32} {lg : Bool} : (mkL c h a f w kd wb nt lg).sh = c.sh := rfl
section NXW
variable {E : En} {c : Cy} {th : Int32} {ly : Ly} {ad ad2 : Nat → Nat → Nat} {w cl : Nat} {sg ow : Int32}
theorem nX_W (wf : WF c) (b : ∀ k z, ¬ (k = 3 ∧ z = (c.R 11 0)) → ¬ (k = 4 ∧ z = (c.R 11 0)) → ad2 k z = ad k z) {q2 : Nat} (hq : ad2 4 (c.R 11 0) = q2) : ∀ k z, eqO (ctu (ctu (cX E c ly ad) 4 (c.R 11 0) (.inl (E.2 2, w, .inr (.inr (.inr (.inr (fun _ => none))))))) 3 (c.R 11 0) (.inr (4, [.int (nI (c.R 11 0)), .int (nI w), .int sg, .int ow, .int (nI cl), .ref q2, .int (-1), .int (-1), .int (nI 0), .int (-1)])) k z) (cX E (mkW c w cl sg ow) ly ad2 k z) := by
  intro k z
  have s0 : c.R 10 0 ≤ c.R 11 0 := wf.sw; have s1 : c.R 10 1 ≤ c.R 11 1 := wf.sh'; have s2 : c.R 10 2 ≤ c.R 11 2 := wf.sl
  have r0 : (mkW c w cl sg ow).R 11 0 = c.R 11 0 + 1 := (by simp [mkW_R, up2])
  have r1 : (mkW c w cl sg ow).R 11 1 = c.R 11 1 := rfl
  have r2 : (mkW c w cl sg ow).R 11 2 = c.R 11 2 := rfl
  have e9 : ∀ z, z < 3 → ∀ j, j < c.R 10 z → ad2 (3 + 2 * z) j = ad (3 + 2 * z) j := by
    intro z hz j hj
    match z, hz, hj with
    | 0, _, hj => exact b 3 j (by omega) (by omega)
    | 1, _, hj => exact b 5 j (by omega) (by omega)
    | 2, _, hj => exact b 7 j (by omega) (by omega)
  have b1 : ∀ z, ad2 1 z = ad 1 z := fun z => b 1 z (by omega) (by omega)
  have b2 : ∀ z, ad2 2 z = ad 2 z := fun z => b 2 z (by omega) (by omega)
  match k with
  | 0 => left; rw [ctu_n (by omega), ctu_n (by omega)]; unfold cX; simp only [xRo, b1]; rfl
  | 1 => left; rw [ctu_n (by omega), ctu_n (by omega)]; unfold cX; simp only [oLs, b2]; rfl
  | 2 =>
    left; rw [ctu_n (by omega), ctu_n (by omega)]; unfold cX
    by_cases q : z < 3 ∧ 0 < ly.2 z
    · simp only [if_pos q, oLa]; rw [← lsf_cg (e9 z q.1)]; rfl
    · simp only [if_neg q]
  | 3 =>
    by_cases hz : z = (c.R 11 0)
    · subst hz
      left; rw [ctu_self]
      unfold cX; simp only [if_pos (show c.R 11 0 < (mkW c w cl sg ow).R 11 0 by rw [r0]; omega)]
      first | rfl | (simp [xWa, mkW_R, mkW_I, mkW_B, mkW_Wr, mkW_sh, up2, mfr, slS, rdS, shI, oI, bI_0, hq]; done) | (simp [xWa, mkW_R, mkW_I, mkW_B, mkW_Wr, mkW_sh, up2, mfr, slS, rdS, shI, oI, bI_0, hq]; rfl)
    · left; rw [ctu_n (by omega), ctu_n (by omega)]; unfold cX
      by_cases q : z < (c.R 11 0)
      · simp only [if_pos q, if_pos (show z < (mkW c w cl sg ow).R 11 0 by rw [r0]; omega)]
        first | rfl | simp [xWa, mkW_R, mkW_I, mkW_B, mkW_Wr, mkW_sh, up2, mfr, slS, rdS, shI, oI, bI_0, hz, b 4 z (by omega) (by omega)]
      · simp only [if_neg q, if_neg (show ¬ z < (mkW c w cl sg ow).R 11 0 by rw [r0]; omega)]
  | 4 =>
    by_cases hz : z = (c.R 11 0)
    · subst hz
      left; rw [ctu_n (by omega), ctu_self]
      unfold cX; simp only [if_pos (show c.R 11 0 < (mkW c w cl sg ow).R 11 0 by rw [r0]; omega)]
      first | rfl | (simp [xSh, mkW_R, mkW_I, mkW_B, mkW_Wr, mkW_sh, up2, mfr, slS, rdS, shI, oI, bI_0, hq]; done) | (simp [xSh, mkW_R, mkW_I, mkW_B, mkW_Wr, mkW_sh, up2, mfr, slS, rdS, shI, oI, bI_0, hq]; rfl)
    · left; rw [ctu_n (by omega), ctu_n (by omega)]; unfold cX
      by_cases q : z < (c.R 11 0)
      · simp only [if_pos q, if_pos (show z < (mkW c w cl sg ow).R 11 0 by rw [r0]; omega)]
        have a9 : ad2 7 = ad 7 := funext fun j => b 7 j (by omega) (by omega)
        first | rfl | simp [xSh, mkW_R, mkW_I, mkW_B, mkW_Wr, mkW_sh, up2, mfr, slS, rdS, shI, oI, bI_0, hz, a9]
      · simp only [if_neg q, if_neg (show ¬ z < (mkW c w cl sg ow).R 11 0 by rw [r0]; omega)]
  | 5 =>
    left; rw [ctu_n (by omega), ctu_n (by omega)]; unfold cX; simp only [r1]; by_cases q : z < c.R 11 1
    · simp only [if_pos q]
      first | rfl | simp [xHa, mkW_R, mkW_I, mkW_B, mkW_Wr, mkW_sh, up2, mfr, slS, rdS, shI, oI, bI_0, b 6 z (by omega) (by omega)]
    · simp only [if_neg q]
  | 6 =>
    left; rw [ctu_n (by omega), ctu_n (by omega)]; unfold cX; simp only [r1]; by_cases q : z < c.R 11 1
    · simp only [if_pos q]
      first | rfl | simp [xWr, mkW_R, mkW_I, mkW_B, mkW_Wr, mkW_sh, up2, mfr, slS, rdS, shI, oI, bI_0]
    · simp only [if_neg q]
  | 7 =>
    left; rw [ctu_n (by omega), ctu_n (by omega)]; unfold cX; simp only [r2]; by_cases q : z < c.R 11 2
    · simp only [if_pos q]
      have g1 : c.R 5 z < c.R 11 1 := wf.lh q; have g2 : c.R 6 z < c.R 11 0 := wf.lw q
      first | rfl | simp [xLa, mkW_R, mkW_I, mkW_B, mkW_Wr, mkW_sh, up2, mfr, slS, rdS, shI, oI, bI_0, b 5 (c.R 5 z) (by omega) (by omega), b 3 (c.R 6 z) (by omega) (by omega)]
    · simp only [if_neg q]
  | k + 8 => left; rw [ctu_n (by omega), ctu_n (by omega)]; rfl
end NXW
section NXH
variable {E : En} {c : Cy} {th : Int32} {ly : Ly} {ad ad2 : Nat → Nat → Nat} {sp : Nat} {cr sl rd : Int32}
theorem nX_H (wf : WF c) (b : ∀ k z, ¬ (k = 5 ∧ z = (c.R 11 1)) → ¬ (k = 6 ∧ z = (c.R 11 1)) → ad2 k z = ad k z) {q2 : Nat} (hq : ad2 6 (c.R 11 1) = q2) : ∀ k z, eqO (ctu (ctu (cX E c ly ad) 6 (c.R 11 1) (.inl (E.2 1, 8, .inl (fun _ => 0)))) 5 (c.R 11 1) (.inr (2, [.int (nI (c.R 11 1)), .int cr, .int (nI sp), .int sl, .int rd, .ref q2, .int (nI 0), .int (nI 0), .int (nI 0), .int (nI 0), .int (nI 0)])) k z) (cX E (mkH c sp cr sl rd) ly ad2 k z) := by
  intro k z
  have s0 : c.R 10 0 ≤ c.R 11 0 := wf.sw; have s1 : c.R 10 1 ≤ c.R 11 1 := wf.sh'; have s2 : c.R 10 2 ≤ c.R 11 2 := wf.sl
  have r0 : (mkH c sp cr sl rd).R 11 0 = c.R 11 0 := rfl
  have r1 : (mkH c sp cr sl rd).R 11 1 = c.R 11 1 + 1 := (by simp [mkH_R, up2])
  have r2 : (mkH c sp cr sl rd).R 11 2 = c.R 11 2 := rfl
  have e9 : ∀ z, z < 3 → ∀ j, j < c.R 10 z → ad2 (3 + 2 * z) j = ad (3 + 2 * z) j := by
    intro z hz j hj
    match z, hz, hj with
    | 0, _, hj => exact b 3 j (by omega) (by omega)
    | 1, _, hj => exact b 5 j (by omega) (by omega)
    | 2, _, hj => exact b 7 j (by omega) (by omega)
  have b1 : ∀ z, ad2 1 z = ad 1 z := fun z => b 1 z (by omega) (by omega)
  have b2 : ∀ z, ad2 2 z = ad 2 z := fun z => b 2 z (by omega) (by omega)
  match k with
  | 0 => left; rw [ctu_n (by omega), ctu_n (by omega)]; unfold cX; simp only [xRo, b1]; rfl
  | 1 => left; rw [ctu_n (by omega), ctu_n (by omega)]; unfold cX; simp only [oLs, b2]; rfl
  | 2 =>
    left; rw [ctu_n (by omega), ctu_n (by omega)]; unfold cX
    by_cases q : z < 3 ∧ 0 < ly.2 z
    · simp only [if_pos q, oLa]; rw [← lsf_cg (e9 z q.1)]; rfl
    · simp only [if_neg q]
  | 3 =>
    left; rw [ctu_n (by omega), ctu_n (by omega)]; unfold cX; simp only [r0]; by_cases q : z < c.R 11 0
    · simp only [if_pos q]
      first | rfl | simp [xWa, mkH_R, mkH_I, mkH_B, mkH_Wr, mkH_sh, up2, mfr, slS, rdS, shI, oI, bI_0, b 4 z (by omega) (by omega)]
    · simp only [if_neg q]
  | 4 =>
    left; rw [ctu_n (by omega), ctu_n (by omega)]; unfold cX; simp only [r0]; by_cases q : z < c.R 11 0
    · simp only [if_pos q]
      have a9 : ad2 7 = ad 7 := funext fun j => b 7 j (by omega) (by omega)
      first | rfl | simp [xSh, mkH_R, mkH_I, mkH_B, mkH_Wr, mkH_sh, up2, mfr, slS, rdS, shI, oI, bI_0, a9]
    · simp only [if_neg q]
  | 5 =>
    by_cases hz : z = (c.R 11 1)
    · subst hz
      left; rw [ctu_self]
      unfold cX; simp only [if_pos (show c.R 11 1 < (mkH c sp cr sl rd).R 11 1 by rw [r1]; omega)]
      first | rfl | (simp [xHa, mkH_R, mkH_I, mkH_B, mkH_Wr, mkH_sh, up2, mfr, slS, rdS, shI, oI, bI_0, hq]; done) | (simp [xHa, mkH_R, mkH_I, mkH_B, mkH_Wr, mkH_sh, up2, mfr, slS, rdS, shI, oI, bI_0, hq]; rfl)
    · left; rw [ctu_n (by omega), ctu_n (by omega)]; unfold cX
      by_cases q : z < (c.R 11 1)
      · simp only [if_pos q, if_pos (show z < (mkH c sp cr sl rd).R 11 1 by rw [r1]; omega)]
        first | rfl | simp [xHa, mkH_R, mkH_I, mkH_B, mkH_Wr, mkH_sh, up2, mfr, slS, rdS, shI, oI, bI_0, hz, b 6 z (by omega) (by omega)]
      · simp only [if_neg q, if_neg (show ¬ z < (mkH c sp cr sl rd).R 11 1 by rw [r1]; omega)]
  | 6 =>
    by_cases hz : z = (c.R 11 1)
    · subst hz
      left; rw [ctu_n (by omega), ctu_self]
      unfold cX; simp only [if_pos (show c.R 11 1 < (mkH c sp cr sl rd).R 11 1 by rw [r1]; omega)]
      first | rfl | (simp [xWr, mkH_R, mkH_I, mkH_B, mkH_Wr, mkH_sh, up2, mfr, slS, rdS, shI, oI, bI_0, hq]; done) | (simp [xWr, mkH_R, mkH_I, mkH_B, mkH_Wr, mkH_sh, up2, mfr, slS, rdS, shI, oI, bI_0, hq]; rfl)
    · left; rw [ctu_n (by omega), ctu_n (by omega)]; unfold cX
      by_cases q : z < (c.R 11 1)
      · simp only [if_pos q, if_pos (show z < (mkH c sp cr sl rd).R 11 1 by rw [r1]; omega)]
        first | rfl | simp [xWr, mkH_R, mkH_I, mkH_B, mkH_Wr, mkH_sh, up2, mfr, slS, rdS, shI, oI, bI_0, hz]
      · simp only [if_neg q, if_neg (show ¬ z < (mkH c sp cr sl rd).R 11 1 by rw [r1]; omega)]
  | 7 =>
    left; rw [ctu_n (by omega), ctu_n (by omega)]; unfold cX; simp only [r2]; by_cases q : z < c.R 11 2
    · simp only [if_pos q]
      have g1 : c.R 5 z < c.R 11 1 := wf.lh q; have g2 : c.R 6 z < c.R 11 0 := wf.lw q
      first | rfl | simp [xLa, mkH_R, mkH_I, mkH_B, mkH_Wr, mkH_sh, up2, mfr, slS, rdS, shI, oI, bI_0, b 5 (c.R 5 z) (by omega) (by omega), b 3 (c.R 6 z) (by omega) (by omega)]
    · simp only [if_neg q]
  | k + 8 => left; rw [ctu_n (by omega), ctu_n (by omega)]; rfl
end NXH
section NXL
variable {E : En} {c : Cy} {th : Int32} {ly : Ly} {ad ad2 : Nat → Nat → Nat} {h a f w kd : Nat} {wb nt : Int32} {lg : Bool}
theorem nX_L (wf : WF c) (b : ∀ k z, ¬ (k = 7 ∧ z = (c.R 11 2)) → ad2 k z = ad k z) (hz1 : nt = nI 0) (hz2 : lg = false) (hh : h < c.R 11 1) (ha : a < c.R 11 0) : ∀ k z, eqO (ctu (cX E c ly ad) 7 (c.R 11 2) (.inr (3, [.int (nI (c.R 11 2)), .ref (ad 5 h), .ref (ad 3 a), .int (nI f), .int (nI w), .int (nI kd), .int wb, .int (nI 0), .int (nI 0), .int (nI 0), .int (nI 0)])) k z) (cX E (mkL c h a f w kd wb nt lg) ly ad2 k z) := by
  intro k z
  have s0 : c.R 10 0 ≤ c.R 11 0 := wf.sw; have s1 : c.R 10 1 ≤ c.R 11 1 := wf.sh'; have s2 : c.R 10 2 ≤ c.R 11 2 := wf.sl
  have r0 : (mkL c h a f w kd wb nt lg).R 11 0 = c.R 11 0 := rfl
  have r1 : (mkL c h a f w kd wb nt lg).R 11 1 = c.R 11 1 := rfl
  have r2 : (mkL c h a f w kd wb nt lg).R 11 2 = c.R 11 2 + 1 := (by simp [mkL_R, up2])
  have e9 : ∀ z, z < 3 → ∀ j, j < c.R 10 z → ad2 (3 + 2 * z) j = ad (3 + 2 * z) j := by
    intro z hz j hj
    match z, hz, hj with
    | 0, _, hj => exact b 3 j (by omega)
    | 1, _, hj => exact b 5 j (by omega)
    | 2, _, hj => exact b 7 j (by omega)
  have b1 : ∀ z, ad2 1 z = ad 1 z := fun z => b 1 z (by omega)
  have b2 : ∀ z, ad2 2 z = ad 2 z := fun z => b 2 z (by omega)
  match k with
  | 0 => left; rw [ctu_n (by omega)]; unfold cX; simp only [xRo, b1]; rfl
  | 1 => left; rw [ctu_n (by omega)]; unfold cX; simp only [oLs, b2]; rfl
  | 2 =>
    left; rw [ctu_n (by omega)]; unfold cX
    by_cases q : z < 3 ∧ 0 < ly.2 z
    · simp only [if_pos q, oLa]; rw [← lsf_cg (e9 z q.1)]; rfl
    · simp only [if_neg q]
  | 3 =>
    left; rw [ctu_n (by omega)]; unfold cX; simp only [r0]; by_cases q : z < c.R 11 0
    · simp only [if_pos q]
      first | rfl | simp [xWa, mkL_R, mkL_I, mkL_B, mkL_Wr, mkL_sh, up2, mfr, slS, rdS, shI, oI, bI_0, b 4 z (by omega)]
    · simp only [if_neg q]
  | 4 =>
    by_cases q : z < c.R 11 0
    · right
      refine ⟨_, _, by rw [ctu_n (by omega)]; exact if_pos q, if_pos (by rw [r0]; exact q), eqE_q fun j hj => ?_⟩
      have e1 : (mkL c h a f w kd wb nt lg).sh z j = c.sh z j := rfl
      rw [e1]
      cases h9 : c.sh z j with
      | none => rfl
      | some y =>
        have := wf.sj q hj h9
        show some (ad 7 y) = some (ad2 7 y)
        rw [b 7 y (by omega)]
    · left; rw [ctu_n (by omega)]; unfold cX; simp only [r0, if_neg q]
  | 5 =>
    left; rw [ctu_n (by omega)]; unfold cX; simp only [r1]; by_cases q : z < c.R 11 1
    · simp only [if_pos q]
      first | rfl | simp [xHa, mkL_R, mkL_I, mkL_B, mkL_Wr, mkL_sh, up2, mfr, slS, rdS, shI, oI, bI_0, b 6 z (by omega)]
    · simp only [if_neg q]
  | 6 =>
    left; rw [ctu_n (by omega)]; unfold cX; simp only [r1]; by_cases q : z < c.R 11 1
    · simp only [if_pos q]
      first | rfl | simp [xWr, mkL_R, mkL_I, mkL_B, mkL_Wr, mkL_sh, up2, mfr, slS, rdS, shI, oI, bI_0]
    · simp only [if_neg q]
  | 7 =>
    by_cases hz : z = (c.R 11 2)
    · subst hz
      subst hz1; subst hz2
      left; rw [ctu_self]
      unfold cX; simp only [if_pos (show c.R 11 2 < (mkL c h a f w kd wb _ _).R 11 2 by rw [r2]; omega)]
      first | rfl | (simp [xLa, mkL_R, mkL_I, mkL_B, mkL_Wr, mkL_sh, up2, mfr, slS, rdS, shI, oI, bI_0, b 5 h (by omega), b 3 a (by omega)]; done) | (simp [xLa, mkL_R, mkL_I, mkL_B, mkL_Wr, mkL_sh, up2, mfr, slS, rdS, shI, oI, bI_0, b 5 h (by omega), b 3 a (by omega)]; rfl)
    · left; rw [ctu_n (by omega)]; unfold cX
      by_cases q : z < (c.R 11 2)
      · simp only [if_pos q, if_pos (show z < (mkL c h a f w kd wb nt lg).R 11 2 by rw [r2]; omega)]
        have g1 : c.R 5 z < c.R 11 1 := wf.lh q; have g2 : c.R 6 z < c.R 11 0 := wf.lw q
        first | rfl | simp [xLa, mkL_R, mkL_I, mkL_B, mkL_Wr, mkL_sh, up2, mfr, slS, rdS, shI, oI, bI_0, hz, b 5 (c.R 5 z) (by omega), b 3 (c.R 6 z) (by omega)]
      · simp only [if_neg q, if_neg (show ¬ z < (mkL c h a f w kd wb nt lg).R 11 2 by rw [r2]; omega)]
  | k + 8 => left; rw [ctu_n (by omega)]; rfl
end NXL
section NMW
variable {E : En} {c : Cy} {th : Int32} {ly : Ly} {ad ad2 : Nat → Nat → Nat} {w cl : Nat} {sg ow : Int32}
theorem nM_W (wf : WF c) (b : ∀ k z, ¬ (k = 3 ∧ z = (c.R 11 0)) → ¬ (k = 4 ∧ z = (c.R 11 0)) → ad2 k z = ad k z) {q2 : Nat} (hq : ad2 4 (c.R 11 0) = q2) : ∀ k z, eqO (ctu (ctu (cM E c th ly ad) 4 (c.R 11 0) (.inl (E.2 1, w, .inl (fun y => if y < w then -1 else 0)))) 3 (c.R 11 0) (.inr (8, [.int sg, .int ow, .int (nI cl), .ref q2, .int (-1), .int (-1), .int (-1), .int (-1)])) k z) (cM E (mkW c w cl sg ow) th ly ad2 k z) := by
  intro k z
  have s0 : c.R 10 0 ≤ c.R 11 0 := wf.sw; have s1 : c.R 10 1 ≤ c.R 11 1 := wf.sh'; have s2 : c.R 10 2 ≤ c.R 11 2 := wf.sl
  have r0 : (mkW c w cl sg ow).R 11 0 = c.R 11 0 + 1 := (by simp [mkW_R, up2])
  have r1 : (mkW c w cl sg ow).R 11 1 = c.R 11 1 := rfl
  have r2 : (mkW c w cl sg ow).R 11 2 = c.R 11 2 := rfl
  have e9 : ∀ z, z < 3 → ∀ j, j < c.R 10 z → ad2 (3 + 2 * z) j = ad (3 + 2 * z) j := by
    intro z hz j hj
    match z, hz, hj with
    | 0, _, hj => exact b 3 j (by omega) (by omega)
    | 1, _, hj => exact b 5 j (by omega) (by omega)
    | 2, _, hj => exact b 7 j (by omega) (by omega)
  have b1 : ∀ z, ad2 1 z = ad 1 z := fun z => b 1 z (by omega) (by omega)
  have b2 : ∀ z, ad2 2 z = ad 2 z := fun z => b 2 z (by omega) (by omega)
  match k with
  | 0 => left; rw [ctu_n (by omega), ctu_n (by omega)]; unfold cM; simp only [mRo, b1]; rfl
  | 1 => left; rw [ctu_n (by omega), ctu_n (by omega)]; unfold cM; simp only [oLs, b2]; rfl
  | 2 =>
    left; rw [ctu_n (by omega), ctu_n (by omega)]; unfold cM
    by_cases q : z < 3 ∧ 0 < ly.2 z
    · simp only [if_pos q, oLa]; rw [← lsf_cg (e9 z q.1)]; rfl
    · simp only [if_neg q]
  | 3 =>
    by_cases hz : z = (c.R 11 0)
    · subst hz
      left; rw [ctu_self]
      unfold cM; simp only [if_pos (show c.R 11 0 < (mkW c w cl sg ow).R 11 0 by rw [r0]; omega)]
      first | rfl | (simp [mWa, mkW_R, mkW_I, mkW_B, mkW_Wr, mkW_sh, up2, mfr, slS, rdS, shI, oI, bI_0, hq]; done) | (simp [mWa, mkW_R, mkW_I, mkW_B, mkW_Wr, mkW_sh, up2, mfr, slS, rdS, shI, oI, bI_0, hq]; rfl)
    · left; rw [ctu_n (by omega), ctu_n (by omega)]; unfold cM
      by_cases q : z < (c.R 11 0)
      · simp only [if_pos q, if_pos (show z < (mkW c w cl sg ow).R 11 0 by rw [r0]; omega)]
        first | rfl | simp [mWa, mkW_R, mkW_I, mkW_B, mkW_Wr, mkW_sh, up2, mfr, slS, rdS, shI, oI, bI_0, hz, b 4 z (by omega) (by omega)]
      · simp only [if_neg q, if_neg (show ¬ z < (mkW c w cl sg ow).R 11 0 by rw [r0]; omega)]
  | 4 =>
    by_cases hz : z = (c.R 11 0)
    · subst hz
      right
      refine ⟨_, _, by rw [ctu_n (by omega), ctu_self], if_pos (by rw [r0]; omega), ?_⟩
      have e1 : (mSh E (mkW c w cl sg ow) (c.R 11 0)) = (E.2 1, w, .inl (fun _ => -1)) := by
        have e2 : shI (mkW c w cl sg ow) (c.R 11 0) = fun _ => -1 := by funext k; simp [shI, mkW_sh, oI]
        simp only [mSh, e2]; simp [mkW_R, up2]
      rw [e1]
      exact eqE_i fun j hj => if_pos hj
    · left; rw [ctu_n (by omega), ctu_n (by omega)]; unfold cM
      by_cases q : z < (c.R 11 0)
      · simp only [if_pos q, if_pos (show z < (mkW c w cl sg ow).R 11 0 by rw [r0]; omega)]
        have e1 : shI (mkW c w cl sg ow) z = shI c z := by funext k; simp [shI, mkW_sh, hz]
        simp only [mSh, e1]; simp [mkW_R, up2, hz]
      · simp only [if_neg q, if_neg (show ¬ z < (mkW c w cl sg ow).R 11 0 by rw [r0]; omega)]
  | 5 =>
    left; rw [ctu_n (by omega), ctu_n (by omega)]; unfold cM; simp only [r1]; by_cases q : z < c.R 11 1
    · simp only [if_pos q]
      first | rfl | simp [mHa, mkW_R, mkW_I, mkW_B, mkW_Wr, mkW_sh, up2, mfr, slS, rdS, shI, oI, bI_0, b 6 z (by omega) (by omega)]
    · simp only [if_neg q]
  | 6 =>
    left; rw [ctu_n (by omega), ctu_n (by omega)]; unfold cM; simp only [r1]; by_cases q : z < c.R 11 1
    · simp only [if_pos q]
      first | rfl | simp [xWr, mkW_R, mkW_I, mkW_B, mkW_Wr, mkW_sh, up2, mfr, slS, rdS, shI, oI, bI_0]
    · simp only [if_neg q]
  | 7 =>
    left; rw [ctu_n (by omega), ctu_n (by omega)]; unfold cM; simp only [r2]; by_cases q : z < c.R 11 2
    · simp only [if_pos q]
      have g1 : c.R 5 z < c.R 11 1 := wf.lh q; have g2 : c.R 6 z < c.R 11 0 := wf.lw q
      first | rfl | simp [mLa, mkW_R, mkW_I, mkW_B, mkW_Wr, mkW_sh, up2, mfr, slS, rdS, shI, oI, bI_0]
    · simp only [if_neg q]
  | k + 8 => left; rw [ctu_n (by omega), ctu_n (by omega)]; rfl
end NMW
section NMH
variable {E : En} {c : Cy} {th : Int32} {ly : Ly} {ad ad2 : Nat → Nat → Nat} {sp : Nat} {cr sl rd : Int32}
theorem nM_H (wf : WF c) (b : ∀ k z, ¬ (k = 5 ∧ z = (c.R 11 1)) → ¬ (k = 6 ∧ z = (c.R 11 1)) → ad2 k z = ad k z) {q2 : Nat} (hq : ad2 6 (c.R 11 1) = q2) : ∀ k z, eqO (ctu (ctu (cM E c th ly ad) 6 (c.R 11 1) (.inl (E.2 1, 8, .inl (fun _ => 0)))) 5 (c.R 11 1) (.inr (6, [.int cr, .int (nI sp), .int sl, .int rd, .int (nI 0), .int (nI 0), .int (nI 0), .int (nI 0), .int (nI 0), .ref q2])) k z) (cM E (mkH c sp cr sl rd) th ly ad2 k z) := by
  intro k z
  have s0 : c.R 10 0 ≤ c.R 11 0 := wf.sw; have s1 : c.R 10 1 ≤ c.R 11 1 := wf.sh'; have s2 : c.R 10 2 ≤ c.R 11 2 := wf.sl
  have r0 : (mkH c sp cr sl rd).R 11 0 = c.R 11 0 := rfl
  have r1 : (mkH c sp cr sl rd).R 11 1 = c.R 11 1 + 1 := (by simp [mkH_R, up2])
  have r2 : (mkH c sp cr sl rd).R 11 2 = c.R 11 2 := rfl
  have e9 : ∀ z, z < 3 → ∀ j, j < c.R 10 z → ad2 (3 + 2 * z) j = ad (3 + 2 * z) j := by
    intro z hz j hj
    match z, hz, hj with
    | 0, _, hj => exact b 3 j (by omega) (by omega)
    | 1, _, hj => exact b 5 j (by omega) (by omega)
    | 2, _, hj => exact b 7 j (by omega) (by omega)
  have b1 : ∀ z, ad2 1 z = ad 1 z := fun z => b 1 z (by omega) (by omega)
  have b2 : ∀ z, ad2 2 z = ad 2 z := fun z => b 2 z (by omega) (by omega)
  match k with
  | 0 => left; rw [ctu_n (by omega), ctu_n (by omega)]; unfold cM; simp only [mRo, b1]; rfl
  | 1 => left; rw [ctu_n (by omega), ctu_n (by omega)]; unfold cM; simp only [oLs, b2]; rfl
  | 2 =>
    left; rw [ctu_n (by omega), ctu_n (by omega)]; unfold cM
    by_cases q : z < 3 ∧ 0 < ly.2 z
    · simp only [if_pos q, oLa]; rw [← lsf_cg (e9 z q.1)]; rfl
    · simp only [if_neg q]
  | 3 =>
    left; rw [ctu_n (by omega), ctu_n (by omega)]; unfold cM; simp only [r0]; by_cases q : z < c.R 11 0
    · simp only [if_pos q]
      first | rfl | simp [mWa, mkH_R, mkH_I, mkH_B, mkH_Wr, mkH_sh, up2, mfr, slS, rdS, shI, oI, bI_0, b 4 z (by omega) (by omega)]
    · simp only [if_neg q]
  | 4 =>
    left; rw [ctu_n (by omega), ctu_n (by omega)]; unfold cM; simp only [r0]; by_cases q : z < c.R 11 0
    · simp only [if_pos q]
      first | rfl | simp [mSh, mkH_R, mkH_I, mkH_B, mkH_Wr, mkH_sh, up2, mfr, slS, rdS, shI, oI, bI_0]
    · simp only [if_neg q]
  | 5 =>
    by_cases hz : z = (c.R 11 1)
    · subst hz
      left; rw [ctu_self]
      unfold cM; simp only [if_pos (show c.R 11 1 < (mkH c sp cr sl rd).R 11 1 by rw [r1]; omega)]
      first | rfl | (simp [mHa, mkH_R, mkH_I, mkH_B, mkH_Wr, mkH_sh, up2, mfr, slS, rdS, shI, oI, bI_0, hq]; done) | (simp [mHa, mkH_R, mkH_I, mkH_B, mkH_Wr, mkH_sh, up2, mfr, slS, rdS, shI, oI, bI_0, hq]; rfl)
    · left; rw [ctu_n (by omega), ctu_n (by omega)]; unfold cM
      by_cases q : z < (c.R 11 1)
      · simp only [if_pos q, if_pos (show z < (mkH c sp cr sl rd).R 11 1 by rw [r1]; omega)]
        first | rfl | simp [mHa, mkH_R, mkH_I, mkH_B, mkH_Wr, mkH_sh, up2, mfr, slS, rdS, shI, oI, bI_0, hz, b 6 z (by omega) (by omega)]
      · simp only [if_neg q, if_neg (show ¬ z < (mkH c sp cr sl rd).R 11 1 by rw [r1]; omega)]
  | 6 =>
    by_cases hz : z = (c.R 11 1)
    · subst hz
      left; rw [ctu_n (by omega), ctu_self]
      unfold cM; simp only [if_pos (show c.R 11 1 < (mkH c sp cr sl rd).R 11 1 by rw [r1]; omega)]
      first | rfl | (simp [xWr, mkH_R, mkH_I, mkH_B, mkH_Wr, mkH_sh, up2, mfr, slS, rdS, shI, oI, bI_0, hq]; done) | (simp [xWr, mkH_R, mkH_I, mkH_B, mkH_Wr, mkH_sh, up2, mfr, slS, rdS, shI, oI, bI_0, hq]; rfl)
    · left; rw [ctu_n (by omega), ctu_n (by omega)]; unfold cM
      by_cases q : z < (c.R 11 1)
      · simp only [if_pos q, if_pos (show z < (mkH c sp cr sl rd).R 11 1 by rw [r1]; omega)]
        first | rfl | simp [xWr, mkH_R, mkH_I, mkH_B, mkH_Wr, mkH_sh, up2, mfr, slS, rdS, shI, oI, bI_0, hz]
      · simp only [if_neg q, if_neg (show ¬ z < (mkH c sp cr sl rd).R 11 1 by rw [r1]; omega)]
  | 7 =>
    left; rw [ctu_n (by omega), ctu_n (by omega)]; unfold cM; simp only [r2]; by_cases q : z < c.R 11 2
    · simp only [if_pos q]
      have g1 : c.R 5 z < c.R 11 1 := wf.lh q; have g2 : c.R 6 z < c.R 11 0 := wf.lw q
      first | rfl | simp [mLa, mkH_R, mkH_I, mkH_B, mkH_Wr, mkH_sh, up2, mfr, slS, rdS, shI, oI, bI_0, Nat.ne_of_lt g1]
    · simp only [if_neg q]
  | k + 8 => left; rw [ctu_n (by omega), ctu_n (by omega)]; rfl
end NMH
section NML
variable {E : En} {c : Cy} {th : Int32} {ly : Ly} {ad ad2 : Nat → Nat → Nat} {h a f w kd : Nat} {wb nt : Int32} {lg : Bool}
theorem nM_L {W0 : Nat → Nat → Int32} {S0 : Nat → Nat → Option Nat} (wf : WF (c.R, c.I, c.B, W0, S0)) (b : ∀ k z, ¬ (k = 7 ∧ z = (c.R 11 2)) → ad2 k z = ad k z) (hh : h < c.R 11 1) : ∀ k z, eqO (ctu (cM E c th ly ad) 7 (c.R 11 2) (.inr (7, [.int (nI h), .int (nI a), .int (nI f), .int (nI w), .int (nI kd), .int (c.I 9 h + wb), .int (c.I 10 h - wb), .int nt, .int (bI lg), .int (nI 0), .int (nI 0)])) k z) (cM E (mkL c h a f w kd wb nt lg) th ly ad2 k z) := by
  intro k z
  have s0 : c.R 10 0 ≤ c.R 11 0 := wf.sw; have s1 : c.R 10 1 ≤ c.R 11 1 := wf.sh'; have s2 : c.R 10 2 ≤ c.R 11 2 := wf.sl
  have r0 : (mkL c h a f w kd wb nt lg).R 11 0 = c.R 11 0 := rfl
  have r1 : (mkL c h a f w kd wb nt lg).R 11 1 = c.R 11 1 := rfl
  have r2 : (mkL c h a f w kd wb nt lg).R 11 2 = c.R 11 2 + 1 := (by simp [mkL_R, up2])
  have e9 : ∀ z, z < 3 → ∀ j, j < c.R 10 z → ad2 (3 + 2 * z) j = ad (3 + 2 * z) j := by
    intro z hz j hj
    match z, hz, hj with
    | 0, _, hj => exact b 3 j (by omega)
    | 1, _, hj => exact b 5 j (by omega)
    | 2, _, hj => exact b 7 j (by omega)
  have b1 : ∀ z, ad2 1 z = ad 1 z := fun z => b 1 z (by omega)
  have b2 : ∀ z, ad2 2 z = ad 2 z := fun z => b 2 z (by omega)
  match k with
  | 0 => left; rw [ctu_n (by omega)]; unfold cM; simp only [mRo, b1]; rfl
  | 1 => left; rw [ctu_n (by omega)]; unfold cM; simp only [oLs, b2]; rfl
  | 2 =>
    left; rw [ctu_n (by omega)]; unfold cM
    by_cases q : z < 3 ∧ 0 < ly.2 z
    · simp only [if_pos q, oLa]; rw [← lsf_cg (e9 z q.1)]; rfl
    · simp only [if_neg q]
  | 3 =>
    left; rw [ctu_n (by omega)]; unfold cM; simp only [r0]; by_cases q : z < c.R 11 0
    · simp only [if_pos q]
      first | rfl | simp [mWa, mkL_R, mkL_I, mkL_B, mkL_Wr, mkL_sh, up2, mfr, slS, rdS, shI, oI, bI_0, b 4 z (by omega)]
    · simp only [if_neg q]
  | 4 =>
    left; rw [ctu_n (by omega)]; unfold cM; simp only [r0]; by_cases q : z < c.R 11 0
    · simp only [if_pos q]
      first | rfl | simp [mSh, mkL_R, mkL_I, mkL_B, mkL_Wr, mkL_sh, up2, mfr, slS, rdS, shI, oI, bI_0]
    · simp only [if_neg q]
  | 5 =>
    left; rw [ctu_n (by omega)]; unfold cM; simp only [r1]; by_cases q : z < c.R 11 1
    · simp only [if_pos q]
      first | rfl | simp [mHa, mkL_R, mkL_I, mkL_B, mkL_Wr, mkL_sh, up2, mfr, slS, rdS, shI, oI, bI_0, b 6 z (by omega)]
    · simp only [if_neg q]
  | 6 =>
    left; rw [ctu_n (by omega)]; unfold cM; simp only [r1]; by_cases q : z < c.R 11 1
    · simp only [if_pos q]
      first | rfl | simp [xWr, mkL_R, mkL_I, mkL_B, mkL_Wr, mkL_sh, up2, mfr, slS, rdS, shI, oI, bI_0]
    · simp only [if_neg q]
  | 7 =>
    by_cases hz : z = (c.R 11 2)
    · subst hz
      left; rw [ctu_self]
      unfold cM; simp only [if_pos (show c.R 11 2 < (mkL c h a f w kd wb nt lg).R 11 2 by rw [r2]; omega)]
      first | rfl | simp [mLa, mkL_R, mkL_I, mkL_B, mkL_Wr, mkL_sh, up2, mfr, slS, rdS, shI, oI, bI_0]
    · left; rw [ctu_n (by omega)]; unfold cM
      by_cases q : z < (c.R 11 2)
      · simp only [if_pos q, if_pos (show z < (mkL c h a f w kd wb nt lg).R 11 2 by rw [r2]; omega)]
        have g1 : c.R 5 z < c.R 11 1 := wf.lh q; have g2 : c.R 6 z < c.R 11 0 := wf.lw q
        first | rfl | simp [mLa, mkL_R, mkL_I, mkL_B, mkL_Wr, mkL_sh, up2, mfr, slS, rdS, shI, oI, bI_0, hz]
      · simp only [if_neg q, if_neg (show ¬ z < (mkL c h a f w kd wb nt lg).R 11 2 by rw [r2]; omega)]
  | k + 8 => left; rw [ctu_n (by omega)]; rfl
end NML
