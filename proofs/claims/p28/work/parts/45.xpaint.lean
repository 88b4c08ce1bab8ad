/-! paint -/
/-- cells f to t of wall i show j -/
def cvS (S : Nat → Nat → Option Nat) (i f t j : Nat) : Nat → Nat → Option Nat := fun a q => if a = i ∧ f ≤ q ∧ q < t then some j else S a q
theorem cvS_0 {S : Nat → Nat → Option Nat} {i f j : Nat} : cvS S i f f j = S := funext fun a => funext fun q => if_neg fun z => by omega
theorem cvS_s {S : Nat → Nat → Option Nat} {i f k j : Nat} (h : f ≤ k) : up2 (cvS S i f k j) i k (some j) = cvS S i f (k + 1) j := by
  funext a q
  unfold up2 cvS
  by_cases z : a = i ∧ q = k
  · rw [if_pos z, if_pos ⟨z.1, by omega, by omega⟩]
  · rw [if_neg z]
    by_cases y : a = i ∧ f ≤ q ∧ q < k
    · rw [if_pos y, if_pos ⟨y.1, y.2.1, by omega⟩]
    · rw [if_neg y, if_neg fun x => y ⟨x.1, x.2.1, by have : ¬ q = k := fun w => z ⟨x.1, w⟩; omega⟩]
theorem up2_twice {α : Type} {f : Nat → Nat → α} {a i : Nat} {v w : α} : up2 (up2 f a i v) a i w = up2 f a i w := by
  funext x y
  unfold up2
  by_cases h : x = a ∧ y = i
  · rw [if_pos h, if_pos h]
  · rw [if_neg h, if_neg h, if_neg h]
theorem up2_comm {α : Type} {f : Nat → Nat → α} {a i b j : Nat} {v w : α} (h : ¬ (a = b ∧ i = j)) : up2 (up2 f a i v) b j w = up2 (up2 f b j w) a i v := by
  funext x y
  unfold up2
  by_cases h1 : x = a ∧ y = i
  · rw [if_pos h1, if_neg (fun q => h ⟨h1.1.symm.trans q.1, h1.2.symm.trans q.2⟩), if_pos h1]
  · by_cases h2 : x = b ∧ y = j
    · rw [if_pos h2, if_neg h1, if_pos h2]
    · rw [if_neg h2, if_neg h1, if_neg h1, if_neg h2]
def ptK (c : Cy) (h i u kd : Nat) : Bool := !permS c h i && watS c i (c.R 3 h) (u * mcS c h kd)
def ptL (c : Cy) (h i f u kd : Nat) (wb : Int32) : Cy := mkL c h i f u kd wb (nI (c.R 0 0)) (permS c h i)
/-- the city when hand h has painted -/
def ptC (c : Cy) (h i f u kd : Nat) (wb : Int32) : Cy :=
  (up2 (up2 (ptL c h i f u kd wb).R 10 2 (c.R 10 2 + 1)) 3 h (c.R 3 h + u * mcS c h kd),
   if ptK c h i u kd = true then up2 (up2 (ptL c h i f u kd wb).I 11 h (c.I 11 h + nI (20 + 10 * kd))) 13 h (c.I 13 h + nI 1) else (ptL c h i f u kd wb).I,
   if ptK c h i u kd = true then up2 (ptL c h i f u kd wb).B 0 h true else (ptL c h i f u kd wb).B,
   dwW c h i f kd u, cvS c.sh i f (f + u) (c.R 11 2))
theorem mkL_Bl {c : Cy} {h a f w kd : Nat} {wb nt nt2 : Int32} {lg lg2 : Bool} : up2 (mkL c h a f w kd wb nt lg).B 1 (c.R 11 2) lg2 = (mkL c h a f w kd wb nt2 lg2).B := by
  rw [mkL_B, mkL_B, up2_comm (a := 3) (by omega), up2_comm (a := 2) (by omega), up2_twice]
theorem mkL_In {c : Cy} {h a f w kd : Nat} {wb nt nt2 : Int32} {lg lg2 : Bool} : up2 (mkL c h a f w kd wb nt lg).I 16 (c.R 11 2) nt2 = (mkL c h a f w kd wb nt2 lg2).I := by
  rw [mkL_I, mkL_I, up2_twice]
theorem PX_eq {E : En} {ly : Ly} {L : List Nat} {ad : Nat → Nat → Nat} {H : Heap} {R R' : Nat → Nat → Nat} {I I' : Nat → Nat → Int32} {B B' : Nat → Nat → Bool} {Wr Wr' : Nat → Nat → Int32} {S S' : Nat → Nat → Option Nat} (h : PX E (R, I, B, Wr, S) ly L ad H) (h1 : R = R') (h2 : I = I') (h3 : B = B') (h4 : Wr = Wr') (h5 : S = S') : PX E (R', I', B', Wr', S') ly L ad H := by
  subst h1; subst h2; subst h3; subst h4; subst h5; exact h
theorem PM_eq {E : En} {th : Int32} {ly : Ly} {L : List Nat} {ad : Nat → Nat → Nat} {H : Heap} {R R' : Nat → Nat → Nat} {I I' : Nat → Nat → Int32} {B B' : Nat → Nat → Bool} {Wr Wr' : Nat → Nat → Int32} {S S' : Nat → Nat → Option Nat} (h : PM E (R, I, B, Wr, S) th ly L ad H) (h1 : R = R') (h2 : I = I') (h3 : B = B') (h4 : Wr = Wr') (h5 : S = S') : PM E (R', I', B', Wr', S') th ly L ad H := by
  subst h1; subst h2; subst h3; subst h4; subst h5; exact h
section PTQ
variable {c c1 : Cy} {h i f u kd : Nat} {wb nt : Int32} {lg : Bool}
theorem ptR_X {x y : Nat} (hx : x = c.R 3 h + u * mcS c h kd) (hy : y = c.R 10 2 + 1) (h1 : c1.R = c.R) : up2 (up2 (mkL c1 h i f u kd wb nt lg).R 3 h x) 10 2 y = (ptC c h i f u kd wb).R := by
  subst hx; subst hy
  rw [up2_comm (by omega)]
  show up2 (up2 (mkL c1 h i f u kd wb nt lg).R 10 2 _) 3 h _ = up2 (up2 (ptL c h i f u kd wb).R 10 2 _) 3 h _
  rw [show (mkL c1 h i f u kd wb nt lg).R = (ptL c h i f u kd wb).R by unfold ptL; rw [mkL_R, mkL_R, h1]]
theorem ptI_f (hk : ptK c h i u kd = false) (h1 : c1.I = c.I) (h0 : c1.R = c.R) : up2 (mkL c1 h i f u kd wb nt lg).I 16 (c.R 11 2) (nI (c.R 0 0)) = (ptC c h i f u kd wb).I := by
  show _ = (if ptK c h i u kd = true then _ else _)
  rw [if_neg (by rw [hk]; decide), ← h0, mkL_In (lg2 := permS c h i), mkL_I]
  unfold ptL
  rw [mkL_I, h0, h1]
theorem ptI_t (hk : ptK c h i u kd = true) (h1 : c1.I = c.I) (h0 : c1.R = c.R) {x y : Int32} (hx : x = c.I 11 h + nI (20 + 10 * kd)) (hy : y = c.I 13 h + nI 1) : up2 (up2 (up2 (mkL c1 h i f u kd wb nt lg).I 16 (c.R 11 2) (nI (c.R 0 0))) 11 h x) 13 h y = (ptC c h i f u kd wb).I := by
  show _ = (if ptK c h i u kd = true then _ else _)
  rw [if_pos hk, hx, hy, ← h0, mkL_In (lg2 := permS c h i), mkL_I]
  unfold ptL
  rw [mkL_I, h0, h1]
theorem ptB_f (hk : ptK c h i u kd = false) (h1 : c1.B = c.B) (h0 : c1.R = c.R) : up2 (mkL c1 h i f u kd wb nt lg).B 1 (c.R 11 2) (permS c h i) = (ptC c h i f u kd wb).B := by
  show _ = (if ptK c h i u kd = true then _ else _)
  rw [if_neg (by rw [hk]; decide), ← h0, mkL_Bl (nt2 := nI (c.R 0 0)), mkL_B]
  unfold ptL
  rw [mkL_B, h0, h1]
theorem ptB_t (hk : ptK c h i u kd = true) (h1 : c1.B = c.B) (h0 : c1.R = c.R) : up2 (up2 (mkL c1 h i f u kd wb nt lg).B 1 (c.R 11 2) (permS c h i)) 0 h true = (ptC c h i f u kd wb).B := by
  show _ = (if ptK c h i u kd = true then _ else _)
  rw [if_pos hk, ← h0, mkL_Bl (nt2 := nI (c.R 0 0)), mkL_B]
  unfold ptL
  rw [mkL_B, h0, h1]
theorem ptS_X {x y : Nat} (hx : x = f) (hy : y = f + u) : cvS c.sh i x y (c.R 11 2) = (ptC c h i f u kd wb).sh := by subst hx; subst hy; rfl
end PTQ
set_option maxHeartbeats 4000000 in
set_option maxRecDepth 100000 in
theorem mX2_cover (l : Launch) {E : En} {c : Cy} {ly : Ly} {L : List Nat} {ad : Nat → Nat → Nat} {H0 : Heap} (hX : PX E c ly L ad H0) (i j : Nat) (hi : i < c.R 11 0) (hj : j < c.R 11 2) (hw : c.R 7 j + c.R 8 j ≤ c.R 1 i) : MuV l yX2_cover cX2_cover 3 (rmk 0 0 0 0) [.ref (ad 3 i), .ref (ad 7 j)] E H0 (fun H1 => PX E (c.R, c.I, c.B, c.Wr, cvS c.sh i (c.R 7 j) (c.R 7 j + c.R 8 j) j) ly L ad H1) (cA L H0) 0 0 := by
  obtain ⟨hP, hly, hLb, wf⟩ := id hX
  have wfx := wf
  refine ro_of (by decide) (Nat.le_of_ble_eq_true rfl) ?_
  intro p e s m below meth co ls hx hb hr hml hown hlocks hnm hC hU hl
  have hS : va_S (cA L H0) s.heap H0 [] := by rw [hU]; exact va_S.rf
  have hA : ∀ q, q ∈ L → cA L H0 q := fun q h => Or.inl h
  have hN : ∀ q, s.heap.size ≤ q → cA L H0 q := fun q h => Or.inr (by rw [← hU]; exact h)
  have hAb : ∀ q, cA L H0 q → bA E q := fun q h => h.elim (hLb q) (fun z => Nat.le_trans hC.2.2.2.1 (by rw [hU]; exact z))
  have hl : lv_has ls 3 [(0, .ref (ad 3 i)), (1, .ref (ad 7 j))] := hl
  have gw := wf.wd hi
  have gl := wf.nl
  refine lv_aload_n hx hb dX2_cover_0 rfl (lv_at hl 1 rfl) ?_
  refine pi_get hx hb hC hown hP fL_X2_57 7 j (cX_7 hj) (v := .int (nI (c.R 7 j))) rfl dX2_cover_1 ?_
  have g_1 : 1 ≤ c.R 8 j ∧ c.R 7 j + c.R 8 j ≤ c.R 1 (c.R 6 j) := wfx.lf hj
  refine lv_istore_n (lv' := [(2, .int (nI (c.R 7 j))), (0, .ref (ad 3 i)), (1, .ref (ad 7 j))]) hx hb dX2_cover_4 rfl hl (by decide) rfl (fun ls hl => ?_)
  have lp5 : ∀ fu : Nat, ∀ (k : Nat), c.R 7 j ≤ k → k ≤ c.R 7 j + c.R 8 j → c.R 7 j + c.R 8 j - k < fu → ∀ (H : Heap) (locs : List Loc), PX E (c.R, c.I, c.B, c.Wr, cvS c.sh i (c.R 7 j) k j) ly L ad H → va_S (cA L H0) s.heap H locs → ∀ ls : Array Slot, lv_has ls 3 [(0, .ref (ad 3 i)), (1, .ref (ad 7 j)), (2, .int (nI k))] → W p l e (rmk 0 0 0 0) s m ([.ref (ad 3 i), .ref (ad 7 j)] : List Value).toArray below meth co H locs 0 0 (MQ below (QvM (fun H1 => PX E (c.R, c.I, c.B, c.Wr, cvS c.sh i (c.R 7 j) (c.R 7 j + c.R 8 j) j) ly L ad H1) (cA L H0)) ([.ref (ad 3 i), .ref (ad 7 j)] : List Value).toArray s 0 0 (cA L H0)) (F0 m 5 ls []) := by
    intro fu
    induction fu with
    | zero => intro k hk hk2 hfu; exact absurd hfu (Nat.not_lt_zero _)
    | succ fu ih5 =>
      intro k hk hk2 hfu H locs hX hS ls hl
      obtain ⟨hP, hly, hLb, wfx⟩ := id hX
      refine lv_iload_n hx hb dX2_cover_5 rfl (lv_at hl 2 rfl) ?_
      refine lv_aload_n hx hb dX2_cover_6 rfl (lv_at hl 1 rfl) ?_
      refine pi_get hx hb hC hown hP fL_X2_57 7 j (cX_7 hj) (v := .int (nI (c.R 7 j))) rfl dX2_cover_7 ?_
      have g_2 : 1 ≤ c.R 8 j ∧ c.R 7 j + c.R 8 j ≤ c.R 1 (c.R 6 j) := wfx.lf hj
      refine lv_aload_n hx hb dX2_cover_10 rfl (lv_at hl 1 rfl) ?_
      refine pi_get hx hb hC hown hP fL_X2_60 7 j (cX_7 hj) (v := .int (nI (c.R 8 j))) rfl dX2_cover_11 ?_
      have g_3 : 1 ≤ c.R 8 j ∧ c.R 7 j + c.R 8 j ≤ c.R 1 (c.R 6 j) := wfx.lf hj
      refine lv_iaddN hx hb dX2_cover_14 ?_
      refine lv_icmpN_ge (tgt := 31) hx hb dX2_cover_15 (by decide) (by omega) (by omega) (fun c_15 => ?_) (fun c_15 => ?_)
      · skip
        exact mu_vret hx hb hr hlocks hS (by have z : k = c.R 7 j + c.R 8 j := (by omega); show PX _ _ _ _ _ _; rw [← z]; exact hX) dX2_cover_31
      · skip
        refine lv_aload_n hx hb dX2_cover_18 rfl (lv_at hl 0 rfl) ?_
        refine pi_get hx hb hC hown hP fL_X2_29 3 i (cX_3 hi) (v := .ref (ad 4 i)) rfl dX2_cover_19 ?_
        have g_4 : 4 ≤ c.R 1 i ∧ c.R 1 i ≤ 16 := wfx.wd hi
        refine lv_iload_n hx hb dX2_cover_22 rfl (lv_at hl 2 rfl) ?_
        refine lv_aload_n hx hb dX2_cover_23 rfl (lv_at hl 1 rfl) ?_
        refine pwX_shown (R := c.R) (I := c.I) (B := c.B) (Wr := c.Wr) (S := cvS c.sh i (c.R 7 j) k j) hx hb hC hX hS hA i hi (j := j) hj (y := k) (by first | assumption | omega) (by omega) (WF.uS wfx (fun _ z => by rw [← Option.some.inj z]; exact hj)) dX2_cover_24 (fun H locs hX hS => ?_)
        obtain ⟨hP, hly, hLb, wfx⟩ := id hX
        refine lv_iincN (v := 1) (lv' := [(2, .int (nI (k + 1))), (0, .ref (ad 3 i)), (1, .ref (ad 7 j))]) hx hb dX2_cover_25 hl (k := 2) rfl (by decide) (by decide) rfl (fun ls hl => ?_)
        refine lv_goto (tgt := 5) hx hb dX2_cover_28 (by decide) ?_
        have esh : up2 (cvS c.sh i (c.R 7 j) k j) i k (some j) = cvS c.sh i (c.R 7 j) (k + 1) j := cvS_s hk
        have hX : PX E (c.R, c.I, c.B, c.Wr, cvS c.sh i (c.R 7 j) (k + 1) j) ly L ad H := by rw [← esh]; exact hX
        exact ih5 (k + 1) (by first | rfl | assumption | omega | (simp [c_15]; done) | (simp_all [c_15]; done)) (by first | rfl | assumption | omega | (simp [c_15]; done) | (simp_all [c_15]; done)) (by omega) _ _ hX hS _ (lv_sub hl [1, 2, 0] rfl)
  have esh : c.sh = cvS c.sh i (c.R 7 j) (c.R 7 j) j := cvS_0.symm
  have hX : PX E (c.R, c.I, c.B, c.Wr, cvS c.sh i (c.R 7 j) (c.R 7 j) j) ly L ad H0 := by rw [← esh]; exact hX
  exact lp5 (c.R 7 j + c.R 8 j - (c.R 7 j) + 1) (c.R 7 j) (by first | rfl | assumption | omega | (simp []; done) | (simp_all []; done)) (by first | rfl | assumption | omega | (simp []; done) | (simp_all []; done)) (Nat.lt_succ_self _) _ _ hX hS _ (lv_sub hl [1, 2, 0] rfl)
set_option maxHeartbeats 4000000 in
set_option maxRecDepth 100000 in
theorem mX3_paint_g (l : Launch) {E : En} {c : Cy} {ly : Ly} {L : List Nat} {ad : Nat → Nat → Nat} {H0 : Heap} (hX : PX E c ly L ad H0) (h i f u kd : Nat) (wb : Int32) (hh : h < c.R 10 1) (hi : i < c.R 10 0) (hp : hasS c i (nI f) (nI u) = true) (hu : 1 ≤ u ∧ u ≤ 16) (hf : f + u ≤ c.R 1 i) (hkd : kd < 4) (hw : isInS wb (-2) (nI 2) = true) (hs : u * mcS c h kd ≤ 360 - c.R 3 h) (hs2 : c.R 10 2 < 60) (heq : c.R 10 2 = c.R 11 2) : MuI l yX3_paint cX3_paint 12 .int (rmk 7 2 211 201) [.ref (ad 0 0), .int (nI h), .int (nI i), .int (nI f), .int (nI u), .int (nI kd), .int wb] E H0 (nI (cwrS c h i f u kd)) (fun H1 => ∃ (L2 : List Nat) (ly2 : Ly) (ad2 : Nat → Nat → Nat), PX E (ptC c h i f u kd wb) ly2 L2 ad2 H1 ∧ ad2 0 0 = ad 0 0 ∧ (∀ q, q ∈ L2 → q ∈ L ∨ H0.size ≤ q)) (cA L H0) 2 211 := by
  obtain ⟨hP, hly, hLb, wf⟩ := id hX
  have wfx := wf
  refine ro_of (by decide) (Nat.le_of_ble_eq_true rfl) ?_
  intro p e s m below meth co ls hx hb hr hml hown hlocks hnm hC hU hl
  have hS : va_S (cA L H0) s.heap H0 [] := by rw [hU]; exact va_S.rf
  have hA : ∀ q, q ∈ L → cA L H0 q := fun q h => Or.inl h
  have hN : ∀ q, s.heap.size ≤ q → cA L H0 q := fun q h => Or.inr (by rw [← hU]; exact h)
  have hAb : ∀ q, cA L H0 q → bA E q := fun q h => h.elim (hLb q) (fun z => Nat.le_trans hC.2.2.2.1 (by rw [hU]; exact z))
  have hl : lv_has ls 12 [(0, .ref (ad 0 0)), (1, .int (nI h)), (2, .int (nI i)), (3, .int (nI f)), (4, .int (nI u)), (5, .int (nI kd)), (6, .int wb)] := hl
  have e00 : ad 0 0 = ad 0 0 := rfl
  have gm := mc_le wf (h := h) (k := kd) (by have := wf.sh'; omega)
  have gu : u * mcS c h kd ≤ 16 * 99 := Nat.mul_le_mul hu.2 gm
  have gl := wf.nl
  have gus := wf.us (i := h) (by have := wf.sh'; omega)
  refine lv_aload_n hx hb dX3_paint_0 rfl (lv_at hl 0 rfl) ?_
  refine lv_iload_n hx hb dX3_paint_1 rfl (lv_at hl 1 rfl) ?_
  refine ro_VR (As := [.int (nI h)]) (h0 := ad 0 0) (rest := []) (v := some (ad 5 h)) hx hb hml hown hC hS hAb (mX3_handAt_g l hX h (show h < c.R 10 1 by first | assumption | omega | decide | (simp only [decide_eq_false_iff_not, decide_eq_true_eq] at *; omega))) kV_X3_92 ⟨rfl, rfl⟩ ⟨Nat.le_of_ble_eq_true rfl, Nat.le_of_ble_eq_true rfl⟩ (hP.recv hC cX_0 rfl) rfl hl (Nat.le_of_ble_eq_true rfl) ⟨show _ ≤ (2 : Nat) by omega, show _ ≤ (211 : Nat) by omega⟩ dX3_paint_2 ?_
  have hg_1 : h < c.R 11 1 := by have := wf.sw; have := wf.sh'; have := wf.sl; omega
  refine lv_astore (lv' := [(7, .ref (ad 5 h)), (0, .ref (ad 0 0)), (1, .int (nI h)), (2, .int (nI i)), (3, .int (nI f)), (4, .int (nI u)), (5, .int (nI kd)), (6, .int wb)]) hx hb dX3_paint_5 hl (by decide) rfl (fun ls hl => ?_)
  refine lv_aload_n hx hb dX3_paint_7 rfl (lv_at hl 1 rfl) ?_
  refine lv_iload_n hx hb dX3_paint_8 rfl (lv_at hl 3 rfl) ?_
  refine ro_VR (As := [.int (nI i)]) (h0 := ad 0 0) (rest := []) (v := some (ad 3 i)) hx hb hml hown hC hS hAb (mX3_wallAt_g l hX i (show i < c.R 10 0 by first | assumption | omega | decide | (simp only [decide_eq_false_iff_not, decide_eq_true_eq] at *; omega))) kV_X3_68 ⟨rfl, rfl⟩ ⟨Nat.le_of_ble_eq_true rfl, Nat.le_of_ble_eq_true rfl⟩ (hP.recv hC cX_0 rfl) rfl hl (Nat.le_of_ble_eq_true rfl) ⟨show _ ≤ (2 : Nat) by omega, show _ ≤ (211 : Nat) by omega⟩ dX3_paint_9 ?_
  have hg_2 : i < c.R 11 0 := by have := wf.sw; have := wf.sh'; have := wf.sl; omega
  refine lv_astore (lv' := [(8, .ref (ad 3 i)), (7, .ref (ad 5 h)), (0, .ref (ad 0 0)), (1, .int (nI h)), (2, .int (nI i)), (3, .int (nI f)), (4, .int (nI u)), (5, .int (nI kd)), (6, .int wb)]) hx hb dX3_paint_12 hl (by decide) rfl (fun ls hl => ?_)
  refine lv_aload hx hb dX3_paint_14 (lv_at hl 0 rfl) ?_
  refine lv_iload_n hx hb dX3_paint_16 rfl (lv_at hl 5 rfl) ?_
  refine lv_iload hx hb dX3_paint_17 (lv_at hl 6 rfl) ?_
  refine ro_V (As := [.int (nI f), .int (nI u)]) (h0 := ad 3 i) (rest := []) (v := bI (hasS c i (nI f) (nI u))) hx hb hml hown hC hS hAb (mX2_hasCells l hX i (nI f) (nI u) hg_2) kV_X3_96 ⟨rfl, rfl⟩ ⟨Nat.le_of_ble_eq_true rfl, Nat.le_of_ble_eq_true rfl⟩ (hP.recv hC (cX_3 hg_2) rfl) rfl hl (Nat.le_of_ble_eq_true rfl) ⟨show _ ≤ (2 : Nat) by omega, show _ ≤ (211 : Nat) by omega⟩ dX3_paint_19 ?_
  refine lv_bif_eq (tgt := 44) hx hb dX3_paint_22 (by decide) (fun c_22 => ?_) (fun c_22 => ?_)
  · skip
    exact absurd (c_22.symm.trans hp) (by decide)
  · skip
    refine lv_iload hx hb dX3_paint_25 (lv_at hl 7 rfl) ?_
    refine ro_S (As := [.int (nI kd)]) (rest := []) (v := bI (isInS (nI kd) (nI 0) (nI 3))) hx hb hml hown hC hS hAb (mX3_isKind l (nI kd) ) kS_X3_100 ⟨rfl, rfl⟩ ⟨Nat.le_of_ble_eq_true rfl, Nat.le_of_ble_eq_true rfl⟩ rfl hl (Nat.le_of_ble_eq_true rfl) ⟨show _ ≤ (2 : Nat) by omega, show _ ≤ (211 : Nat) by omega⟩ dX3_paint_27 ?_
    refine lv_bif_eq (tgt := 44) hx hb dX3_paint_30 (by decide) (fun c_30 => ?_) (fun c_30 => ?_)
    · skip
      exact absurd (c_30.symm.trans (isIn_le (by omega) (by decide))) (by decide)
    · skip
      refine lv_iload hx hb dX3_paint_33 (lv_at hl 8 rfl) ?_
      refine lv_bipush (v := -2) hx hb dX3_paint_35 (by decide) ?_
      refine lv_iconstN hx hb 2 dX3_paint_37 (by decide) ?_
      refine ro_S (As := [.int wb, .int (-2), .int (nI 2)]) (rest := []) (v := bI (isInS wb (-2) (nI 2))) hx hb hml hown hC hS hAb (mX3_isWithin l wb (-2) (nI 2) ) kS_X3_32 ⟨rfl, rfl⟩ ⟨Nat.le_of_ble_eq_true rfl, Nat.le_of_ble_eq_true rfl⟩ rfl hl (Nat.le_of_ble_eq_true rfl) ⟨show _ ≤ (2 : Nat) by omega, show _ ≤ (211 : Nat) by omega⟩ dX3_paint_38 ?_
      refine lv_bif_ne (tgt := 54) hx hb dX3_paint_41 (by decide) (fun c_41 => ?_) (fun c_41 => ?_)
      · skip
        refine lv_iload hx hb dX3_paint_54 (lv_at hl 6 rfl) ?_
        refine lv_aload hx hb dX3_paint_56 (lv_at hl 1 rfl) ?_
        refine lv_iload hx hb dX3_paint_58 (lv_at hl 7 rfl) ?_
        refine ro_V (As := [.int (nI kd)]) (h0 := ad 5 h) (rest := [.int (nI u)]) (v := nI (mcS c h kd)) hx hb hml hown hC hS hAb (mX0_minutesOfCell l hX h kd hg_1 (show kd < 4 by first | assumption | omega | decide | (simp only [decide_eq_false_iff_not, decide_eq_true_eq] at *; omega))) kV_X3_106 ⟨rfl, rfl⟩ ⟨Nat.le_of_ble_eq_true rfl, Nat.le_of_ble_eq_true rfl⟩ (hP.recv hC (cX_5 hg_1) rfl) rfl hl (Nat.le_of_ble_eq_true rfl) ⟨show _ ≤ (2 : Nat) by omega, show _ ≤ (211 : Nat) by omega⟩ dX3_paint_60 ?_
        refine lv_imulN hx hb dX3_paint_63 ?_
        refine lv_istore (lv' := [(9, .int (nI (u * (mcS c h kd)))), (8, .ref (ad 3 i)), (7, .ref (ad 5 h)), (0, .ref (ad 0 0)), (1, .int (nI h)), (2, .int (nI i)), (3, .int (nI f)), (4, .int (nI u)), (5, .int (nI kd)), (6, .int wb)]) hx hb dX3_paint_64 hl (by decide) rfl (fun ls hl => ?_)
        refine lv_iload hx hb dX3_paint_66 (lv_at hl 0 rfl) ?_
        refine lv_aload hx hb dX3_paint_68 (lv_at hl 2 rfl) ?_
        refine ro_V (As := []) (h0 := ad 5 h) (rest := [.int (nI (u * (mcS c h kd)))]) (v := nI (360 - c.R 3 h)) hx hb hml hown hC hS hAb (mX0_minutesLeft l hX h hg_1) kV_X3_109 ⟨rfl, rfl⟩ ⟨Nat.le_of_ble_eq_true rfl, Nat.le_of_ble_eq_true rfl⟩ (hP.recv hC (cX_5 hg_1) rfl) rfl hl (Nat.le_of_ble_eq_true rfl) ⟨show _ ≤ (2 : Nat) by omega, show _ ≤ (211 : Nat) by omega⟩ dX3_paint_70 ?_
        refine lv_icmpN_gt (tgt := 88) hx hb dX3_paint_73 (by decide) (by omega) (by omega) (fun c_73 => ?_) (fun c_73 => ?_)
        · skip
          exact absurd hs (by omega)
        · skip
          refine lv_aload_n hx hb dX3_paint_76 rfl (lv_at hl 3 rfl) ?_
          refine pi_get hx hb hC hown hP fL_X3_19 0 0 cX_0 (v := .ref (ad 1 2)) rfl dX3_paint_77 ?_
          refine ro_V (As := []) (h0 := ad 1 2) (rest := []) (v := nI (c.R 10 2)) hx hb hml hown hC hS hAb (mJ_size l hP 2 (cX_1 (by decide))) kV_X3_43 ⟨rfl, rfl⟩ ⟨Nat.le_of_ble_eq_true rfl, Nat.le_of_ble_eq_true rfl⟩ (hP.recv hC (cX_1 (i := 2) (by decide)) rfl) rfl hl (Nat.le_of_ble_eq_true rfl) ⟨show _ ≤ (2 : Nat) by omega, show _ ≤ (211 : Nat) by omega⟩ dX3_paint_80 ?_
          have g_3 := wf.sl
          have g_4 := wf.nl
          refine lv_bipushN hx hb 60 dX3_paint_83 (by decide) ?_
          refine lv_icmpN_lt (tgt := 98) hx hb dX3_paint_85 (by decide) (by omega) (by omega) (fun c_85 => ?_) (fun c_85 => ?_)
          · skip
            refine lv_aload_n hx hb dX3_paint_98 rfl (lv_at hl 3 rfl) ?_
            refine lv_aload hx hb dX3_paint_99 (lv_at hl 2 rfl) ?_
            refine lv_aload hx hb dX3_paint_101 (lv_at hl 1 rfl) ?_
            refine lv_iload_n hx hb dX3_paint_103 rfl (lv_at hl 6 rfl) ?_
            refine lv_iload hx hb dX3_paint_104 (lv_at hl 7 rfl) ?_
            refine lv_iload hx hb dX3_paint_106 (lv_at hl 8 rfl) ?_
            refine mu_V (As := [.ref (ad 5 h), .ref (ad 3 i), .int (nI f), .int (nI u), .int (nI kd)]) (h0 := ad 0 0) (rest := []) (v := nI (cwrS c h i f u kd)) hx hb hml hown hC hS hAb (mX3_doWrongs l hX h i f u kd hg_1 hg_2 (show f + u ≤ c.R 1 i by first | assumption | omega | decide | (simp only [decide_eq_false_iff_not, decide_eq_true_eq] at *; omega)) (show kd < 4 by first | assumption | omega | decide | (simp only [decide_eq_false_iff_not, decide_eq_true_eq] at *; omega))) (fun q h => h.elim (hA q) (fun z => hN q (Nat.le_trans hS.1 z))) kV_X3_114 ⟨rfl, rfl⟩ ⟨Nat.le_of_ble_eq_true rfl, Nat.le_of_ble_eq_true rfl⟩ (hP.recv hC cX_0 rfl) rfl hl (Nat.le_of_ble_eq_true rfl) ⟨show 0 + 0 ≤ (2 : Nat) by omega, show 0 + 0 ≤ (211 : Nat) by omega⟩ dX3_paint_108 (fun H locs hB hS9 hz hk => ?_)
            have hS := hS9
            have hX : PX E (c.R, c.I, c.B, dwW c h i f kd u, c.sh) ly L ad H := hB
            obtain ⟨hP, hly, hLb, wfx⟩ := id hX
            refine lv_istore (lv' := [(10, .int (nI (cwrS c h i f u kd))), (9, .int (nI (u * (mcS c h kd)))), (8, .ref (ad 3 i)), (7, .ref (ad 5 h)), (0, .ref (ad 0 0)), (1, .int (nI h)), (2, .int (nI i)), (3, .int (nI f)), (4, .int (nI u)), (5, .int (nI kd)), (6, .int wb)]) hx hb dX3_paint_111 hl (by decide) rfl (fun ls hl => ?_)
            refine pi_newC (ci := 3) (fs := [.int (nI 0), .null, .null, .int (nI 0), .int (nI 0), .int (nI 0), .int (nI 0), .int (nI 0), .int (nI 0), .int (nI 0), .int (nI 0)]) (C := RX1) (T := TX1) (N := 11) hx hb hC hown hP hS hA hN wU_X1 tyX1 tyX1_ok wCl_X3_118 wIa_X1 wIn_X1 rfl (fun j hj => by match j, hj with | 0, _ => rfl | 1, _ => rfl | 2, _ => rfl | 3, _ => rfl | 4, _ => rfl | 5, _ => rfl | 6, _ => rfl | 7, _ => rfl | 8, _ => rfl | 9, _ => rfl | 10, _ => rfl) 7 (c.R 11 2) ⟨show 0 + 1 ≤ (2 : Nat) by omega, show 0 + 11 ≤ (211 : Nat) by omega⟩ dX3_paint_113 (fun q H hqL hAq hQ hS => ?_)
            obtain ⟨L, hQ, hX, hA⟩ := pX_new hX hQ hA hAq hAb (if_neg (Nat.lt_irrefl _))
            obtain ⟨hP, hly, hLb, wfx⟩ := id hX
            refine lv_dup hx hb dX3_paint_116 rfl ?_
            refine lv_aload_n hx hb dX3_paint_117 rfl (lv_at hl 4 rfl) ?_
            refine pi_get hx hb hC hown hP fL_X3_19 0 0 cX_0 (v := .ref (ad 1 2)) rfl dX3_paint_118 ?_
            refine ro_V (As := []) (h0 := ad 1 2) (rest := [.ref q, .ref q]) (v := nI (c.R 10 2)) hx hb hml hown hC hS hAb (mJ_size l hP 2 (cX_1 (by decide))) kV_X3_43 ⟨rfl, rfl⟩ ⟨Nat.le_of_ble_eq_true rfl, Nat.le_of_ble_eq_true rfl⟩ (hP.recv hC (cX_1 (i := 2) (by decide)) rfl) rfl hl (Nat.le_of_ble_eq_true rfl) ⟨show _ ≤ (2 : Nat) by omega, show _ ≤ (211 : Nat) by omega⟩ dX3_paint_121 ?_
            refine lv_aload hx hb dX3_paint_124 (lv_at hl 3 rfl) ?_
            refine lv_aload hx hb dX3_paint_126 (lv_at hl 2 rfl) ?_
            refine lv_iload_n hx hb dX3_paint_128 rfl (lv_at hl 7 rfl) ?_
            refine lv_iload hx hb dX3_paint_129 (lv_at hl 8 rfl) ?_
            refine lv_iload hx hb dX3_paint_131 (lv_at hl 9 rfl) ?_
            refine lv_iload hx hb dX3_paint_133 (lv_at hl 10 rfl) ?_
            have en : c.R 10 2 = c.R 11 2 := by omega
            have hM := mX1_init l 7 (c.R 11 2) hQ (c.R 10 2) (ad 5 h) (ad 3 i) f u kd wb
            rw [up2_same] at hM
            rw [en] at hM
            rw [en]
            refine mu_I (As := [.int (nI (c.R 11 2)), .ref (ad 5 h), .ref (ad 3 i), .int (nI f), .int (nI u), .int (nI kd), .int wb]) (h0 := q) (rest := [.ref q]) hx hb hml hown hC hS hAb hM (fun z h => h.elim (hA z) (fun h => hN z (Nat.le_trans hS.1 h))) kI_X3_120 ⟨rfl, rfl⟩ ⟨Nat.le_of_ble_eq_true rfl, Nat.le_of_ble_eq_true rfl⟩ rfl hl (Nat.le_of_ble_eq_true rfl) ⟨show 1 + 0 ≤ (2 : Nat) by omega, show 11 + 0 ≤ (211 : Nat) by omega⟩ dX3_paint_135 (fun H locs hB hS9 hz hk => ?_)
            have hS := hS9
            obtain ⟨L, ad, hX, hA, e1, e2⟩ := pX_L hX rfl rfl hg_1 hg_2 hB hA hAb (WF_mkL wfx (show c.R 11 2 < 60 by omega) hg_1 hg_2 (by omega) (by omega) (show f + u ≤ c.R 1 i by omega))
            have e1 : ad 7 (c.R 11 2) = q := e1
            have e00 := (e2 0 0 (by omega)).trans e00
            have hX : PX E ((mkL c h i f u kd wb (nI 0) false).R, (mkL c h i f u kd wb (nI 0) false).I, (mkL c h i f u kd wb (nI 0) false).B, dwW c h i f kd u, c.sh) ly L ad H := hX
            obtain ⟨hP, hly, hLb, wfx⟩ := id hX
            have hLb := fun z h => hAb z (hA z h)
            have v7 : (mkL c h i f u kd wb (nI 0) false).R 7 (c.R 11 2) = f := by simp [mkL_R, up2]
            have v8 : (mkL c h i f u kd wb (nI 0) false).R 8 (c.R 11 2) = u := by simp [mkL_R, up2]
            have hn_5 : c.R 11 2 < (mkL c h i f u kd wb (nI 0) false).R 11 2 := by rw [show (mkL c h i f u kd wb (nI 0) false).R 11 2 = c.R 11 2 + 1 by simp [mkL_R, up2]]; exact Nat.lt_succ_self _
            have hl : lv_has ls 12 [(10, .int (nI (cwrS c h i f u kd))), (9, .int (nI (u * (mcS c h kd)))), (8, .ref (ad 3 i)), (7, .ref (ad 5 h)), (0, .ref (ad 0 0)), (1, .int (nI h)), (2, .int (nI i)), (3, .int (nI f)), (4, .int (nI u)), (5, .int (nI kd)), (6, .int wb)] := by rw [e2 3 i (by omega), e2 5 h (by omega), e2 0 0 (by omega)]; exact hl
            refine W.eq (g2 := F0 m 138 ls [.ref (ad 7 (c.R 11 2))]) (by rw [e1]) ?_
            refine lv_astore (lv' := [(11, .ref (ad 7 (c.R 11 2))), (10, .int (nI (cwrS c h i f u kd))), (9, .int (nI (u * (mcS c h kd)))), (8, .ref (ad 3 i)), (7, .ref (ad 5 h)), (0, .ref (ad 0 0)), (1, .int (nI h)), (2, .int (nI i)), (3, .int (nI f)), (4, .int (nI u)), (5, .int (nI kd)), (6, .int wb)]) hx hb dX3_paint_138 hl (by decide) rfl (fun ls hl => ?_)
            refine lv_aload hx hb dX3_paint_140 (lv_at hl 0 rfl) ?_
            refine lv_aload_n hx hb dX3_paint_142 rfl (lv_at hl 5 rfl) ?_
            refine pi_get hx hb hC hown hP fL_X3_22 0 0 cX_0 (v := .int (nI (c.R 0 0))) rfl dX3_paint_143 ?_
            have g_6 : c.R 0 0 ≤ 400 := wfx.nt
            refine pwX_night (R := (mkL c h i f u kd wb (nI 0) false).R) (I := (mkL c h i f u kd wb (nI 0) false).I) (B := (mkL c h i f u kd wb (nI 0) false).B) (Wr := dwW c h i f kd u) (S := c.sh) hx hb hC hown hX hS hA fP_X3_123 (c.R 11 2) hn_5 (v := nI (c.R 0 0)) (WF.uI wfx (by decide)) dX3_paint_146 (fun H locs hX hS => ?_)
            obtain ⟨hP, hly, hLb, wfx⟩ := id hX
            refine lv_aload hx hb dX3_paint_149 (lv_at hl 0 rfl) ?_
            refine lv_aload_n hx hb dX3_paint_151 rfl (lv_at hl 5 rfl) ?_
            refine lv_aload hx hb dX3_paint_152 (lv_at hl 4 rfl) ?_
            refine lv_aload hx hb dX3_paint_154 (lv_at hl 3 rfl) ?_
            refine ro_V (As := [.ref (ad 5 h), .ref (ad 3 i)]) (h0 := ad 0 0) (rest := [.ref (ad 7 (c.R 11 2))]) (v := bI (permS c h i)) hx hb hml hown hC hS hAb (mX3_isPermitted l hX h i hg_1 hg_2) kV_X3_126 ⟨rfl, rfl⟩ ⟨Nat.le_of_ble_eq_true rfl, Nat.le_of_ble_eq_true rfl⟩ (hP.recv hC cX_0 rfl) rfl hl (Nat.le_of_ble_eq_true rfl) ⟨show _ ≤ (2 : Nat) by omega, show _ ≤ (211 : Nat) by omega⟩ dX3_paint_156 ?_
            refine pwX_legal (R := (mkL c h i f u kd wb (nI 0) false).R) (I := up2 ((mkL c h i f u kd wb (nI 0) false).I) 16 (c.R 11 2) (nI (c.R 0 0))) (B := (mkL c h i f u kd wb (nI 0) false).B) (Wr := dwW c h i f kd u) (S := c.sh) hx hb hC hown hX hS hA fP_X3_130 (c.R 11 2) hn_5 (v := permS c h i) (WF.uB wfx _) dX3_paint_159 (fun H locs hX hS => ?_)
            obtain ⟨hP, hly, hLb, wfx⟩ := id hX
            refine lv_aload hx hb dX3_paint_162 (lv_at hl 0 rfl) ?_
            refine pi_get hx hb hC hown hP fL_X3_130 7 (c.R 11 2) (cX_7 hn_5) (v := .int (bI (permS c h i))) (by show some _ = some _; simp [up2, Cy.R, Cy.I, Cy.B]) dX3_paint_164 ?_
            refine lv_bif_ne (tgt := 192) hx hb dX3_paint_167 (by decide) (fun c_167 => ?_) (fun c_167 => ?_)
            · skip
              refine lv_aload hx hb dX3_paint_192 (lv_at hl 4 rfl) ?_
              refine lv_dup hx hb dX3_paint_194 rfl ?_
              refine pi_get hx hb hC hown hP fL_X3_134 5 h (cX_5 hg_1) (v := .int (nI (c.R 3 h))) rfl dX3_paint_195 ?_
              have g_7 : c.R 3 h ≤ 360 := wfx.us hg_1
              refine lv_iload hx hb dX3_paint_198 (lv_at hl 2 rfl) ?_
              refine lv_iaddN hx hb dX3_paint_200 ?_
              refine pwX_minutesUsed (R := (mkL c h i f u kd wb (nI 0) false).R) (I := up2 ((mkL c h i f u kd wb (nI 0) false).I) 16 (c.R 11 2) (nI (c.R 0 0))) (B := up2 ((mkL c h i f u kd wb (nI 0) false).B) 1 (c.R 11 2) (permS c h i)) (Wr := dwW c h i f kd u) (S := c.sh) hx hb hC hown hX hS hA fP_X3_134 h hg_1 (v := (c.R 3 h) + (u * (mcS c h kd))) (WF.uR3 wfx (by omega)) dX3_paint_201 (fun H locs hX hS => ?_)
              obtain ⟨hP, hly, hLb, wfx⟩ := id hX
              refine lv_aload hx hb dX3_paint_204 (lv_at hl 3 rfl) ?_
              refine lv_aload hx hb dX3_paint_206 (lv_at hl 0 rfl) ?_
              refine mu_VV (As := [.ref (ad 7 (c.R 11 2))]) (h0 := ad 3 i) (rest := []) hx hb hml hown hC hS hAb (mX2_cover l hX i (c.R 11 2) hg_2 (show (c.R 11 2) < c.R 11 2 + 1 by first | assumption | omega | decide | (simp only [decide_eq_false_iff_not, decide_eq_true_eq] at *; omega)) (show ((mkL c h i f u kd wb (nI 0) false).R) 7 (c.R 11 2) + ((mkL c h i f u kd wb (nI 0) false).R) 8 (c.R 11 2) ≤ c.R 1 i by first | assumption | omega | decide | (simp only [decide_eq_false_iff_not, decide_eq_true_eq] at *; omega))) (fun q h => h.elim (hA q) (fun z => hN q (Nat.le_trans hS.1 z))) kV_X3_144 ⟨rfl, rfl⟩ ⟨Nat.le_of_ble_eq_true rfl, Nat.le_of_ble_eq_true rfl⟩ (hP.recv hC (cX_3 hg_2) rfl) rfl hl (Nat.le_of_ble_eq_true rfl) ⟨show 1 + 0 ≤ (2 : Nat) by omega, show 11 + 0 ≤ (211 : Nat) by omega⟩ dX3_paint_208 (fun H locs hB hS9 hz hk => ?_)
              have hS := hS9
              have hX : PX E (up2 ((mkL c h i f u kd wb (nI 0) false).R) 3 h ((c.R 3 h) + (u * (mcS c h kd))), up2 ((mkL c h i f u kd wb (nI 0) false).I) 16 (c.R 11 2) (nI (c.R 0 0)), up2 ((mkL c h i f u kd wb (nI 0) false).B) 1 (c.R 11 2) (permS c h i), dwW c h i f kd u, cvS c.sh i (((mkL c h i f u kd wb (nI 0) false).R) 7 (c.R 11 2)) (((mkL c h i f u kd wb (nI 0) false).R) 7 (c.R 11 2) + ((mkL c h i f u kd wb (nI 0) false).R) 8 (c.R 11 2)) (c.R 11 2)) ly L ad H := hB
              obtain ⟨hP, hly, hLb, wfx⟩ := id hX
              refine lv_aload_n hx hb dX3_paint_211 rfl (lv_at hl 5 rfl) ?_
              refine pi_get hx hb hC hown hP fL_X3_19 0 0 cX_0 (v := .ref (ad 1 2)) rfl dX3_paint_212 ?_
              refine lv_aload hx hb dX3_paint_215 (lv_at hl 0 rfl) ?_
              have hn9 : c.R 11 2 = c.R 10 2 := by omega
              have hM := mJ_add1 l hP hLb 2 (by decide) (n := c.R 10 2) (p := ly.2 2) (md := ly.1 2) (cX_1 (by decide)) (fun h9 => cX_2 (by decide) h9) (hly 2 (by decide)).1 (by omega) (hly 2 (by decide)).2.1 (hly 2 (by decide)).2.2 rfl (ci := 3) (C := RX1) rfl wCa_X1_O (fun j hj => ⟨_, cX_7 (Nat.lt_of_le_of_lt hj (show c.R 10 2 < (mkL c h i f u kd wb (nI 0) false).R 11 2 by omega))⟩)
              rw [hn9]
              refine mu_V (As := [.ref (ad 7 (c.R 10 2))]) (h0 := ad 1 2) (rest := []) (v := bI true) hx hb hml hown hC hS hAb hM (fun q h => h.elim (hA q) (fun z => hN q (Nat.le_trans hS.1 z))) kV_X3_57 ⟨rfl, rfl⟩ ⟨Nat.le_of_ble_eq_true rfl, Nat.le_of_ble_eq_true rfl⟩ (hP.recv hC (cX_1 (i := 2) (by decide)) rfl) rfl hl (Nat.le_of_ble_eq_true rfl) ⟨show 1 + 1 ≤ (2 : Nat) by omega, show 11 + 200 ≤ (211 : Nat) by omega⟩ dX3_paint_217 (fun H locs hB hS9 hz hk => ?_)
              obtain ⟨L, ly, ad, hX, hA, e2⟩ := lX_add (by decide) hX hB rfl (show c.R 10 2 < (mkL c h i f u kd wb (nI 0) false).R 11 2 by omega) hA (fun z h => hN z (Nat.le_trans hS.1 h)) hAb
              have hS := hS9
              have e00 := (e2 0 0 (by omega)).trans e00
              have hX : PX E (up2 (up2 ((mkL c h i f u kd wb (nI 0) false).R) 3 h ((c.R 3 h) + (u * (mcS c h kd)))) 10 2 (c.R 10 2 + 1), up2 ((mkL c h i f u kd wb (nI 0) false).I) 16 (c.R 11 2) (nI (c.R 0 0)), up2 ((mkL c h i f u kd wb (nI 0) false).B) 1 (c.R 11 2) (permS c h i), dwW c h i f kd u, cvS c.sh i (((mkL c h i f u kd wb (nI 0) false).R) 7 (c.R 11 2)) (((mkL c h i f u kd wb (nI 0) false).R) 7 (c.R 11 2) + ((mkL c h i f u kd wb (nI 0) false).R) 8 (c.R 11 2)) (c.R 11 2)) ly L ad H := hX
              obtain ⟨hP, hly, hLb, wfx⟩ := id hX
              have hl : lv_has ls 12 [(11, .ref (ad 7 (c.R 11 2))), (10, .int (nI (cwrS c h i f u kd))), (9, .int (nI (u * (mcS c h kd)))), (8, .ref (ad 3 i)), (7, .ref (ad 5 h)), (0, .ref (ad 0 0)), (1, .int (nI h)), (2, .int (nI i)), (3, .int (nI f)), (4, .int (nI u)), (5, .int (nI kd)), (6, .int wb)] := by rw [e2 7 (c.R 11 2) (by omega), e2 3 i (by omega), e2 5 h (by omega), e2 0 0 (by omega)]; exact hl
              refine W.eq (g2 := F0 m 220 ls [.int (bI true)]) (rfl) ?_
              refine lv_pop hx hb dX3_paint_220 rfl ?_
              refine lv_iload hx hb dX3_paint_221 (lv_at hl 1 rfl) ?_
              exact mu_iret (x := nI (cwrS c h i f u kd)) hx hb hr hlocks hS (⟨L, ly, ad, (by show PX E ((ptC c h i f u kd wb).R, (ptC c h i f u kd wb).I, (ptC c h i f u kd wb).B, (ptC c h i f u kd wb).Wr, (ptC c h i f u kd wb).sh) ly L ad _; first | (have hk : ptK c h i u kd = true := (by simp [ptK, c_22, c_30, c_41, c_73, c_85, c_167]); exact PX_eq hX (ptR_X rfl rfl rfl) (ptI_t hk rfl rfl rfl rfl) (ptB_t hk rfl rfl) rfl (ptS_X v7 (by rw [v7, v8]))) | (have hk : ptK c h i u kd = false := (by simp [ptK, c_22, c_30, c_41, c_73, c_85, c_167]); exact PX_eq hX (ptR_X rfl rfl rfl) (ptI_f hk rfl rfl) (ptB_f hk rfl rfl) rfl (ptS_X v7 (by rw [v7, v8])))), e00, hA⟩) (by first | rfl | (simp [c_22, c_30, c_41, c_73, c_85, c_167]; done) | (simp [c_22, c_30, c_41, c_73, c_85, c_167]; omega) | (simp_all [c_22, c_30, c_41, c_73, c_85, c_167]; done)) dX3_paint_223
            · skip
              refine lv_aload hx hb dX3_paint_170 (lv_at hl 3 rfl) ?_
              refine lv_aload hx hb dX3_paint_172 (lv_at hl 4 rfl) ?_
              refine pi_get hx hb hC hown hP fL_X3_134 5 h (cX_5 hg_1) (v := .int (nI (c.R 3 h))) rfl dX3_paint_174 ?_
              have g_8 : c.R 3 h ≤ 360 := wfx.us hg_1
              refine lv_iload hx hb dX3_paint_177 (lv_at hl 2 rfl) ?_
              refine ro_V (As := [.int (nI (c.R 3 h)), .int (nI (u * (mcS c h kd)))]) (h0 := ad 3 i) (rest := []) (v := bI (watS c i (c.R 3 h) (u * (mcS c h kd)))) hx hb hml hown hC hS hAb (mX2_isWatchedWithin l hX i (c.R 3 h) (u * (mcS c h kd)) hg_2) kV_X3_137 ⟨rfl, rfl⟩ ⟨Nat.le_of_ble_eq_true rfl, Nat.le_of_ble_eq_true rfl⟩ (hP.recv hC (cX_3 hg_2) rfl) rfl hl (Nat.le_of_ble_eq_true rfl) ⟨show _ ≤ (2 : Nat) by omega, show _ ≤ (211 : Nat) by omega⟩ dX3_paint_179 ?_
              refine lv_bif_eq (tgt := 192) hx hb dX3_paint_182 (by decide) (fun c_182 => ?_) (fun c_182 => ?_)
              · skip
                refine lv_aload hx hb dX3_paint_192 (lv_at hl 4 rfl) ?_
                refine lv_dup hx hb dX3_paint_194 rfl ?_
                refine pi_get hx hb hC hown hP fL_X3_134 5 h (cX_5 hg_1) (v := .int (nI (c.R 3 h))) rfl dX3_paint_195 ?_
                refine lv_iload hx hb dX3_paint_198 (lv_at hl 2 rfl) ?_
                refine lv_iaddN hx hb dX3_paint_200 ?_
                refine pwX_minutesUsed (R := (mkL c h i f u kd wb (nI 0) false).R) (I := up2 ((mkL c h i f u kd wb (nI 0) false).I) 16 (c.R 11 2) (nI (c.R 0 0))) (B := up2 ((mkL c h i f u kd wb (nI 0) false).B) 1 (c.R 11 2) (permS c h i)) (Wr := dwW c h i f kd u) (S := c.sh) hx hb hC hown hX hS hA fP_X3_134 h hg_1 (v := (c.R 3 h) + (u * (mcS c h kd))) (WF.uR3 wfx (by omega)) dX3_paint_201 (fun H locs hX hS => ?_)
                obtain ⟨hP, hly, hLb, wfx⟩ := id hX
                refine lv_aload hx hb dX3_paint_204 (lv_at hl 3 rfl) ?_
                refine lv_aload hx hb dX3_paint_206 (lv_at hl 0 rfl) ?_
                refine mu_VV (As := [.ref (ad 7 (c.R 11 2))]) (h0 := ad 3 i) (rest := []) hx hb hml hown hC hS hAb (mX2_cover l hX i (c.R 11 2) hg_2 (show (c.R 11 2) < c.R 11 2 + 1 by first | assumption | omega | decide | (simp only [decide_eq_false_iff_not, decide_eq_true_eq] at *; omega)) (show ((mkL c h i f u kd wb (nI 0) false).R) 7 (c.R 11 2) + ((mkL c h i f u kd wb (nI 0) false).R) 8 (c.R 11 2) ≤ c.R 1 i by first | assumption | omega | decide | (simp only [decide_eq_false_iff_not, decide_eq_true_eq] at *; omega))) (fun q h => h.elim (hA q) (fun z => hN q (Nat.le_trans hS.1 z))) kV_X3_144 ⟨rfl, rfl⟩ ⟨Nat.le_of_ble_eq_true rfl, Nat.le_of_ble_eq_true rfl⟩ (hP.recv hC (cX_3 hg_2) rfl) rfl hl (Nat.le_of_ble_eq_true rfl) ⟨show 1 + 0 ≤ (2 : Nat) by omega, show 11 + 0 ≤ (211 : Nat) by omega⟩ dX3_paint_208 (fun H locs hB hS9 hz hk => ?_)
                have hS := hS9
                have hX : PX E (up2 ((mkL c h i f u kd wb (nI 0) false).R) 3 h ((c.R 3 h) + (u * (mcS c h kd))), up2 ((mkL c h i f u kd wb (nI 0) false).I) 16 (c.R 11 2) (nI (c.R 0 0)), up2 ((mkL c h i f u kd wb (nI 0) false).B) 1 (c.R 11 2) (permS c h i), dwW c h i f kd u, cvS c.sh i (((mkL c h i f u kd wb (nI 0) false).R) 7 (c.R 11 2)) (((mkL c h i f u kd wb (nI 0) false).R) 7 (c.R 11 2) + ((mkL c h i f u kd wb (nI 0) false).R) 8 (c.R 11 2)) (c.R 11 2)) ly L ad H := hB
                obtain ⟨hP, hly, hLb, wfx⟩ := id hX
                refine lv_aload_n hx hb dX3_paint_211 rfl (lv_at hl 5 rfl) ?_
                refine pi_get hx hb hC hown hP fL_X3_19 0 0 cX_0 (v := .ref (ad 1 2)) rfl dX3_paint_212 ?_
                refine lv_aload hx hb dX3_paint_215 (lv_at hl 0 rfl) ?_
                have hn9 : c.R 11 2 = c.R 10 2 := by omega
                have hM := mJ_add1 l hP hLb 2 (by decide) (n := c.R 10 2) (p := ly.2 2) (md := ly.1 2) (cX_1 (by decide)) (fun h9 => cX_2 (by decide) h9) (hly 2 (by decide)).1 (by omega) (hly 2 (by decide)).2.1 (hly 2 (by decide)).2.2 rfl (ci := 3) (C := RX1) rfl wCa_X1_O (fun j hj => ⟨_, cX_7 (Nat.lt_of_le_of_lt hj (show c.R 10 2 < (mkL c h i f u kd wb (nI 0) false).R 11 2 by omega))⟩)
                rw [hn9]
                refine mu_V (As := [.ref (ad 7 (c.R 10 2))]) (h0 := ad 1 2) (rest := []) (v := bI true) hx hb hml hown hC hS hAb hM (fun q h => h.elim (hA q) (fun z => hN q (Nat.le_trans hS.1 z))) kV_X3_57 ⟨rfl, rfl⟩ ⟨Nat.le_of_ble_eq_true rfl, Nat.le_of_ble_eq_true rfl⟩ (hP.recv hC (cX_1 (i := 2) (by decide)) rfl) rfl hl (Nat.le_of_ble_eq_true rfl) ⟨show 1 + 1 ≤ (2 : Nat) by omega, show 11 + 200 ≤ (211 : Nat) by omega⟩ dX3_paint_217 (fun H locs hB hS9 hz hk => ?_)
                obtain ⟨L, ly, ad, hX, hA, e2⟩ := lX_add (by decide) hX hB rfl (show c.R 10 2 < (mkL c h i f u kd wb (nI 0) false).R 11 2 by omega) hA (fun z h => hN z (Nat.le_trans hS.1 h)) hAb
                have hS := hS9
                have e00 := (e2 0 0 (by omega)).trans e00
                have hX : PX E (up2 (up2 ((mkL c h i f u kd wb (nI 0) false).R) 3 h ((c.R 3 h) + (u * (mcS c h kd)))) 10 2 (c.R 10 2 + 1), up2 ((mkL c h i f u kd wb (nI 0) false).I) 16 (c.R 11 2) (nI (c.R 0 0)), up2 ((mkL c h i f u kd wb (nI 0) false).B) 1 (c.R 11 2) (permS c h i), dwW c h i f kd u, cvS c.sh i (((mkL c h i f u kd wb (nI 0) false).R) 7 (c.R 11 2)) (((mkL c h i f u kd wb (nI 0) false).R) 7 (c.R 11 2) + ((mkL c h i f u kd wb (nI 0) false).R) 8 (c.R 11 2)) (c.R 11 2)) ly L ad H := hX
                obtain ⟨hP, hly, hLb, wfx⟩ := id hX
                have hl : lv_has ls 12 [(11, .ref (ad 7 (c.R 11 2))), (10, .int (nI (cwrS c h i f u kd))), (9, .int (nI (u * (mcS c h kd)))), (8, .ref (ad 3 i)), (7, .ref (ad 5 h)), (0, .ref (ad 0 0)), (1, .int (nI h)), (2, .int (nI i)), (3, .int (nI f)), (4, .int (nI u)), (5, .int (nI kd)), (6, .int wb)] := by rw [e2 7 (c.R 11 2) (by omega), e2 3 i (by omega), e2 5 h (by omega), e2 0 0 (by omega)]; exact hl
                refine W.eq (g2 := F0 m 220 ls [.int (bI true)]) (rfl) ?_
                refine lv_pop hx hb dX3_paint_220 rfl ?_
                refine lv_iload hx hb dX3_paint_221 (lv_at hl 1 rfl) ?_
                exact mu_iret (x := nI (cwrS c h i f u kd)) hx hb hr hlocks hS (⟨L, ly, ad, (by show PX E ((ptC c h i f u kd wb).R, (ptC c h i f u kd wb).I, (ptC c h i f u kd wb).B, (ptC c h i f u kd wb).Wr, (ptC c h i f u kd wb).sh) ly L ad _; first | (have hk : ptK c h i u kd = true := (by simp [ptK, c_22, c_30, c_41, c_73, c_85, c_167, c_182]); exact PX_eq hX (ptR_X rfl rfl rfl) (ptI_t hk rfl rfl rfl rfl) (ptB_t hk rfl rfl) rfl (ptS_X v7 (by rw [v7, v8]))) | (have hk : ptK c h i u kd = false := (by simp [ptK, c_22, c_30, c_41, c_73, c_85, c_167, c_182]); exact PX_eq hX (ptR_X rfl rfl rfl) (ptI_f hk rfl rfl) (ptB_f hk rfl rfl) rfl (ptS_X v7 (by rw [v7, v8])))), e00, hA⟩) (by first | rfl | (simp [c_22, c_30, c_41, c_73, c_85, c_167, c_182]; done) | (simp [c_22, c_30, c_41, c_73, c_85, c_167, c_182]; omega) | (simp_all [c_22, c_30, c_41, c_73, c_85, c_167, c_182]; done)) dX3_paint_223
              · skip
                refine lv_aload hx hb dX3_paint_185 (lv_at hl 4 rfl) ?_
                refine lv_iload hx hb dX3_paint_187 (lv_at hl 10 rfl) ?_
                refine mu_VV (As := [.int (nI kd)]) (h0 := ad 5 h) (rest := []) hx hb hml hown hC hS hAb (mX0_beCaught l hX h kd hg_1) (fun q h => h.elim (hA q) (fun z => hN q (Nat.le_trans hS.1 z))) kV_X3_140 ⟨rfl, rfl⟩ ⟨Nat.le_of_ble_eq_true rfl, Nat.le_of_ble_eq_true rfl⟩ (hP.recv hC (cX_5 hg_1) rfl) rfl hl (Nat.le_of_ble_eq_true rfl) ⟨show 1 + 0 ≤ (2 : Nat) by omega, show 11 + 0 ≤ (211 : Nat) by omega⟩ dX3_paint_189 (fun H locs hB hS9 hz hk => ?_)
                have hS := hS9
                have hX : PX E ((mkL c h i f u kd wb (nI 0) false).R, up2 (up2 ((up2 ((mkL c h i f u kd wb (nI 0) false).I) 16 (c.R 11 2) (nI (c.R 0 0)))) 11 h (c.I 11 h + nI (20 + 10 * kd))) 13 h (c.I 13 h + nI 1), up2 ((up2 ((mkL c h i f u kd wb (nI 0) false).B) 1 (c.R 11 2) (permS c h i))) 0 h true, dwW c h i f kd u, c.sh) ly L ad H := hB
                obtain ⟨hP, hly, hLb, wfx⟩ := id hX
                refine lv_aload hx hb dX3_paint_192 (lv_at hl 4 rfl) ?_
                refine lv_dup hx hb dX3_paint_194 rfl ?_
                refine pi_get hx hb hC hown hP fL_X3_134 5 h (cX_5 hg_1) (v := .int (nI (c.R 3 h))) rfl dX3_paint_195 ?_
                have g_9 : c.R 3 h ≤ 360 := wfx.us hg_1
                refine lv_iload hx hb dX3_paint_198 (lv_at hl 2 rfl) ?_
                refine lv_iaddN hx hb dX3_paint_200 ?_
                refine pwX_minutesUsed (R := (mkL c h i f u kd wb (nI 0) false).R) (I := up2 (up2 ((up2 ((mkL c h i f u kd wb (nI 0) false).I) 16 (c.R 11 2) (nI (c.R 0 0)))) 11 h (c.I 11 h + nI (20 + 10 * kd))) 13 h (c.I 13 h + nI 1)) (B := up2 ((up2 ((mkL c h i f u kd wb (nI 0) false).B) 1 (c.R 11 2) (permS c h i))) 0 h true) (Wr := dwW c h i f kd u) (S := c.sh) hx hb hC hown hX hS hA fP_X3_134 h hg_1 (v := (c.R 3 h) + (u * (mcS c h kd))) (WF.uR3 wfx (by omega)) dX3_paint_201 (fun H locs hX hS => ?_)
                obtain ⟨hP, hly, hLb, wfx⟩ := id hX
                refine lv_aload hx hb dX3_paint_204 (lv_at hl 3 rfl) ?_
                refine lv_aload hx hb dX3_paint_206 (lv_at hl 0 rfl) ?_
                refine mu_VV (As := [.ref (ad 7 (c.R 11 2))]) (h0 := ad 3 i) (rest := []) hx hb hml hown hC hS hAb (mX2_cover l hX i (c.R 11 2) hg_2 (show (c.R 11 2) < c.R 11 2 + 1 by first | assumption | omega | decide | (simp only [decide_eq_false_iff_not, decide_eq_true_eq] at *; omega)) (show ((mkL c h i f u kd wb (nI 0) false).R) 7 (c.R 11 2) + ((mkL c h i f u kd wb (nI 0) false).R) 8 (c.R 11 2) ≤ c.R 1 i by first | assumption | omega | decide | (simp only [decide_eq_false_iff_not, decide_eq_true_eq] at *; omega))) (fun q h => h.elim (hA q) (fun z => hN q (Nat.le_trans hS.1 z))) kV_X3_144 ⟨rfl, rfl⟩ ⟨Nat.le_of_ble_eq_true rfl, Nat.le_of_ble_eq_true rfl⟩ (hP.recv hC (cX_3 hg_2) rfl) rfl hl (Nat.le_of_ble_eq_true rfl) ⟨show 1 + 0 ≤ (2 : Nat) by omega, show 11 + 0 ≤ (211 : Nat) by omega⟩ dX3_paint_208 (fun H locs hB hS9 hz hk => ?_)
                have hS := hS9
                have hX : PX E (up2 ((mkL c h i f u kd wb (nI 0) false).R) 3 h ((c.R 3 h) + (u * (mcS c h kd))), up2 (up2 ((up2 ((mkL c h i f u kd wb (nI 0) false).I) 16 (c.R 11 2) (nI (c.R 0 0)))) 11 h (c.I 11 h + nI (20 + 10 * kd))) 13 h (c.I 13 h + nI 1), up2 ((up2 ((mkL c h i f u kd wb (nI 0) false).B) 1 (c.R 11 2) (permS c h i))) 0 h true, dwW c h i f kd u, cvS c.sh i (((mkL c h i f u kd wb (nI 0) false).R) 7 (c.R 11 2)) (((mkL c h i f u kd wb (nI 0) false).R) 7 (c.R 11 2) + ((mkL c h i f u kd wb (nI 0) false).R) 8 (c.R 11 2)) (c.R 11 2)) ly L ad H := hB
                obtain ⟨hP, hly, hLb, wfx⟩ := id hX
                refine lv_aload_n hx hb dX3_paint_211 rfl (lv_at hl 5 rfl) ?_
                refine pi_get hx hb hC hown hP fL_X3_19 0 0 cX_0 (v := .ref (ad 1 2)) rfl dX3_paint_212 ?_
                refine lv_aload hx hb dX3_paint_215 (lv_at hl 0 rfl) ?_
                have hn9 : c.R 11 2 = c.R 10 2 := by omega
                have hM := mJ_add1 l hP hLb 2 (by decide) (n := c.R 10 2) (p := ly.2 2) (md := ly.1 2) (cX_1 (by decide)) (fun h9 => cX_2 (by decide) h9) (hly 2 (by decide)).1 (by omega) (hly 2 (by decide)).2.1 (hly 2 (by decide)).2.2 rfl (ci := 3) (C := RX1) rfl wCa_X1_O (fun j hj => ⟨_, cX_7 (Nat.lt_of_le_of_lt hj (show c.R 10 2 < (mkL c h i f u kd wb (nI 0) false).R 11 2 by omega))⟩)
                rw [hn9]
                refine mu_V (As := [.ref (ad 7 (c.R 10 2))]) (h0 := ad 1 2) (rest := []) (v := bI true) hx hb hml hown hC hS hAb hM (fun q h => h.elim (hA q) (fun z => hN q (Nat.le_trans hS.1 z))) kV_X3_57 ⟨rfl, rfl⟩ ⟨Nat.le_of_ble_eq_true rfl, Nat.le_of_ble_eq_true rfl⟩ (hP.recv hC (cX_1 (i := 2) (by decide)) rfl) rfl hl (Nat.le_of_ble_eq_true rfl) ⟨show 1 + 1 ≤ (2 : Nat) by omega, show 11 + 200 ≤ (211 : Nat) by omega⟩ dX3_paint_217 (fun H locs hB hS9 hz hk => ?_)
                obtain ⟨L, ly, ad, hX, hA, e2⟩ := lX_add (by decide) hX hB rfl (show c.R 10 2 < (mkL c h i f u kd wb (nI 0) false).R 11 2 by omega) hA (fun z h => hN z (Nat.le_trans hS.1 h)) hAb
                have hS := hS9
                have e00 := (e2 0 0 (by omega)).trans e00
                have hX : PX E (up2 (up2 ((mkL c h i f u kd wb (nI 0) false).R) 3 h ((c.R 3 h) + (u * (mcS c h kd)))) 10 2 (c.R 10 2 + 1), up2 (up2 ((up2 ((mkL c h i f u kd wb (nI 0) false).I) 16 (c.R 11 2) (nI (c.R 0 0)))) 11 h (c.I 11 h + nI (20 + 10 * kd))) 13 h (c.I 13 h + nI 1), up2 ((up2 ((mkL c h i f u kd wb (nI 0) false).B) 1 (c.R 11 2) (permS c h i))) 0 h true, dwW c h i f kd u, cvS c.sh i (((mkL c h i f u kd wb (nI 0) false).R) 7 (c.R 11 2)) (((mkL c h i f u kd wb (nI 0) false).R) 7 (c.R 11 2) + ((mkL c h i f u kd wb (nI 0) false).R) 8 (c.R 11 2)) (c.R 11 2)) ly L ad H := hX
                obtain ⟨hP, hly, hLb, wfx⟩ := id hX
                have hl : lv_has ls 12 [(11, .ref (ad 7 (c.R 11 2))), (10, .int (nI (cwrS c h i f u kd))), (9, .int (nI (u * (mcS c h kd)))), (8, .ref (ad 3 i)), (7, .ref (ad 5 h)), (0, .ref (ad 0 0)), (1, .int (nI h)), (2, .int (nI i)), (3, .int (nI f)), (4, .int (nI u)), (5, .int (nI kd)), (6, .int wb)] := by rw [e2 7 (c.R 11 2) (by omega), e2 3 i (by omega), e2 5 h (by omega), e2 0 0 (by omega)]; exact hl
                refine W.eq (g2 := F0 m 220 ls [.int (bI true)]) (rfl) ?_
                refine lv_pop hx hb dX3_paint_220 rfl ?_
                refine lv_iload hx hb dX3_paint_221 (lv_at hl 1 rfl) ?_
                exact mu_iret (x := nI (cwrS c h i f u kd)) hx hb hr hlocks hS (⟨L, ly, ad, (by show PX E ((ptC c h i f u kd wb).R, (ptC c h i f u kd wb).I, (ptC c h i f u kd wb).B, (ptC c h i f u kd wb).Wr, (ptC c h i f u kd wb).sh) ly L ad _; first | (have hk : ptK c h i u kd = true := (by simp [ptK, c_22, c_30, c_41, c_73, c_85, c_167, c_182]); exact PX_eq hX (ptR_X rfl rfl rfl) (ptI_t hk rfl rfl rfl rfl) (ptB_t hk rfl rfl) rfl (ptS_X v7 (by rw [v7, v8]))) | (have hk : ptK c h i u kd = false := (by simp [ptK, c_22, c_30, c_41, c_73, c_85, c_167, c_182]); exact PX_eq hX (ptR_X rfl rfl rfl) (ptI_f hk rfl rfl) (ptB_f hk rfl rfl) rfl (ptS_X v7 (by rw [v7, v8])))), e00, hA⟩) (by first | rfl | (simp [c_22, c_30, c_41, c_73, c_85, c_167, c_182]; done) | (simp [c_22, c_30, c_41, c_73, c_85, c_167, c_182]; omega) | (simp_all [c_22, c_30, c_41, c_73, c_85, c_167, c_182]; done)) dX3_paint_223
          · skip
            exact absurd hs2 (by omega)
      · skip
        exact absurd (c_41.symm.trans hw) (by decide)
