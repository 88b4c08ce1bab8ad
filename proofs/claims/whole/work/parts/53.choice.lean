/-! each op, whatever its arguments -/
theorem isIn_rng {v : Int32} {a n : Nat} (ha : a < 2 ^ 31) (hn : n < 2 ^ 31) (h : isInS v (nI a) (nI n) = true) : ∃ i, a ≤ i ∧ i ≤ n ∧ v = nI i := by
  unfold isInS at h
  simp only [Bool.and_eq_true, Bool.not_eq_true', decide_eq_false_iff_not] at h
  have h0 : ¬ v < 0 := fun q => by
    apply h.1
    have e0 := nI_toInt ha
    rw [Int32.lt_iff_toInt_lt] at q ⊢
    have : (0 : Int32).toInt = 0 := by decide
    omega
  obtain ⟨j, hj, e⟩ := nI_of (x := v) h0
  rw [e] at h
  exact ⟨j, Nat.not_lt.mp fun q => h.1 ((nI_ltI hj ha).mpr q), Nat.not_lt.mp fun q => h.2 ((nI_ltI hn hj).mpr q), e⟩
theorem has_of {c : Cy} (wf : WF c) {i : Nat} (hi : i < c.R 11 0) {f w : Int32} (h : hasS c i f w = true) : ∃ f' w', f = nI f' ∧ w = nI w' ∧ 1 ≤ w' ∧ f' + w' ≤ c.R 1 i := by
  have hW := wf.wd hi
  generalize hn : c.R 1 i = n at hW
  unfold hasS at h
  rw [hn] at h
  simp only [Bool.and_eq_true, Bool.not_eq_true', decide_eq_false_iff_not] at h
  obtain ⟨⟨h1, h2⟩, h3⟩ := h
  have h0 : ¬ w < 0 := fun q => by
    apply h2
    rw [Int32.lt_iff_toInt_lt] at q ⊢
    have e1 : (0 : Int32).toInt = 0 := by decide
    have e2 : (nI 1).toInt = 1 := by decide
    omega
  obtain ⟨f', hf, e1⟩ := nI_of (x := f) h1
  obtain ⟨w', hw, e2⟩ := nI_of (x := w) h0
  refine ⟨f', w', e1, e2, ?_, ?_⟩
  · rw [e2] at h2
    exact Nat.not_lt.mp fun q => h2 ((nI_ltI hw (by decide)).mpr q)
  · have z1 : isZ (nI n - f) ((n : Int) - f.toInt) := isZ_sub (isZ_n (by omega)) rfl (by rw [e1, nI_toInt hf]; omega)
    rw [isZ_lt z1 (rfl : isZ w _)] at h3
    rw [e1, e2, nI_toInt hf, nI_toInt hw] at h3
    omega
section CAS
variable {p : Program} {l : Launch} {e : Env} {s : State} {m : MethodId} {below : List Frame} {meth : Method} {co : Code} {bb Ln : Nat} {xs : Nat → Int32} {E : En} {Q : State → Prop}
theorem ld_wall (C0 : LC p l s m co E bb Ln xs) {c : Cy} {th : Int32} {v0 : Int64} {H : Heap} {locs : List Loc} {x mm out : Nat} (hT : LT E s.heap x mm out c c th v0 H locs) {ii : Nat} (hii : ii + 7 ≤ Ln) {cells slots : Nat} (hcs : cells + 1100 ≤ 609960 ∧ slots + 14000 ≤ 7266223) {ls : Array Slot} (hl : lv_has ls 9 [(4, .int (nI ii)), (0, .ref bb), (1, .ref x), (2, .ref mm), (3, .ref out)]) (kk : KK p l e s m below meth co bb E Q x mm out ii cells slots) : W p l e room_1 s m #[Value.ref bb] below meth co H locs cells slots Q (F0 m 156 ls []) := by
  have hT0 := hT
  obtain ⟨ly, L, ad, ly', L', ad', hX, hM, -⟩ := hT0
  have wf := hX.2.2.2
  have heq := hM.2.2.2.2
  have g1 := wf.sw
  have g2 := wf.sh'
  have g3 := wf.sl
  have g4 := wf.nw
  have g5 := wf.nh
  have g6 := wf.nl
  cases ha : walOK (xs (ii + 1)) (xs (ii + 2)) (xs (ii + 3)) (xs (ii + 4)) with
  | false => exact lc_wall_b1 C0 hT hii hcs hl kk _ _ _ _ rfl rfl rfl rfl ha
  | true =>
    by_cases hs : 6 ≤ c.R 10 0
    · exact lc_wall_b2 C0 hT hii hcs hl kk _ _ _ _ rfl rfl rfl rfl ha hs
    · have h9 := ha
      unfold walOK at h9
      simp only [Bool.and_eq_true, Bool.or_eq_true, decide_eq_true_eq] at h9
      obtain ⟨⟨⟨h1, h2⟩, h3⟩, h4⟩ := h9
      obtain ⟨w, hw1, hw2, e1⟩ := isIn_rng (by decide) (by decide) h1
      obtain ⟨g, hg1, hg2, e2⟩ := isIn_rng (by decide) (by decide) h2
      rcases h4 with h4 | h4
      · exact lc_wall_g C0 hT hii hcs hl kk w 0 _ _ e1 rfl rfl h4 hw1 hw2 ⟨g, hg1, hg2, e2⟩ h2 h3 (Or.inl rfl) (Nat.zero_le _) (by omega) heq.1
      · obtain ⟨cl, hc1, hc2, e4⟩ := isIn_rng (by decide) (by decide) h4
        exact lc_wall_g C0 hT hii hcs hl kk w cl _ _ e1 rfl rfl e4 hw1 hw2 ⟨g, hg1, hg2, e2⟩ h2 h3 (Or.inr hc1) hc2 (by omega) heq.1
theorem ld_hand (C0 : LC p l s m co E bb Ln xs) {c : Cy} {th : Int32} {v0 : Int64} {H : Heap} {locs : List Loc} {x mm out : Nat} (hT : LT E s.heap x mm out c c th v0 H locs) {ii : Nat} (hii : ii + 7 ≤ Ln) {cells slots : Nat} (hcs : cells + 1100 ≤ 609960 ∧ slots + 14000 ≤ 7266223) {ls : Array Slot} (hl : lv_has ls 9 [(4, .int (nI ii)), (0, .ref bb), (1, .ref x), (2, .ref mm), (3, .ref out)]) (kk : KK p l e s m below meth co bb E Q x mm out ii cells slots) : W p l e room_1 s m #[Value.ref bb] below meth co H locs cells slots Q (F0 m 248 ls []) := by
  have hT0 := hT
  obtain ⟨ly, L, ad, ly', L', ad', hX, hM, -⟩ := hT0
  have wf := hX.2.2.2
  have heq := hM.2.2.2.2
  have g1 := wf.sw
  have g2 := wf.sh'
  have g3 := wf.sl
  have g4 := wf.nw
  have g5 := wf.nh
  have g6 := wf.nl
  cases ha : hanOK (xs (ii + 1)) (xs (ii + 2)) (xs (ii + 3)) (xs (ii + 4)) with
  | false => exact lc_hand_b1 C0 hT hii hcs hl kk _ _ _ _ rfl rfl rfl rfl ha
  | true =>
    by_cases hs : 8 ≤ c.R 10 1
    · exact lc_hand_b2 C0 hT hii hcs hl kk _ _ _ _ rfl rfl rfl rfl ha hs
    · have h9 := ha
      unfold hanOK at h9
      simp only [Bool.and_eq_true] at h9
      obtain ⟨⟨⟨h1, h2⟩, h3⟩, h4⟩ := h9
      obtain ⟨sp, hp1, hp2, e2⟩ := isIn_rng (by decide) (by decide) h2
      exact lc_hand_g C0 hT hii hcs hl kk sp _ _ _ rfl e2 rfl rfl h1 hp1 hp2 h3 h4 (by omega) heq.2.1
theorem ld_permit (C0 : LC p l s m co E bb Ln xs) {c : Cy} {th : Int32} {v0 : Int64} {H : Heap} {locs : List Loc} {x mm out : Nat} (hT : LT E s.heap x mm out c c th v0 H locs) {ii : Nat} (hii : ii + 7 ≤ Ln) {cells slots : Nat} (hcs : cells + 1100 ≤ 609960 ∧ slots + 14000 ≤ 7266223) {ls : Array Slot} (hl : lv_has ls 9 [(4, .int (nI ii)), (0, .ref bb), (1, .ref x), (2, .ref mm), (3, .ref out)]) (kk : KK p l e s m below meth co bb E Q x mm out ii cells slots) : W p l e room_1 s m #[Value.ref bb] below meth co H locs cells slots Q (F0 m 340 ls []) := by
  have hT0 := hT
  obtain ⟨ly, L, ad, ly', L', ad', hX, hM, -⟩ := hT0
  have wf := hX.2.2.2
  have heq := hM.2.2.2.2
  have g1 := wf.sw
  have g2 := wf.sh'
  have g3 := wf.sl
  have g4 := wf.nw
  have g5 := wf.nh
  have g6 := wf.nl
  cases hv1 : isInS (xs (ii + 1)) (nI 0) (nI (c.R 10 0) - nI 1) with
  | false => exact lc_permit_b1 C0 hT hii hcs hl kk _ _ _ rfl rfl rfl hv1
  | true =>
    obtain ⟨i, hi, e1⟩ := isIn_of (by omega) hv1
    cases ha : (isInS (xs (ii + 2)) (nI 0) (nI 3) && isInS (xs (ii + 3)) (nI (c.R 0 0)) (nI 400)) with
    | false => exact lc_permit_b2 C0 hT hii hcs hl kk i _ _ e1 rfl rfl hi ha
    | true =>
      have h9 := (Bool.and_eq_true _ _).mp ha
      exact lc_permit_g C0 hT hii hcs hl kk i _ _ e1 rfl rfl hi h9.1 h9.2
theorem ld_watch (C0 : LC p l s m co E bb Ln xs) {c : Cy} {th : Int32} {v0 : Int64} {H : Heap} {locs : List Loc} {x mm out : Nat} (hT : LT E s.heap x mm out c c th v0 H locs) {ii : Nat} (hii : ii + 7 ≤ Ln) {cells slots : Nat} (hcs : cells + 1100 ≤ 609960 ∧ slots + 14000 ≤ 7266223) {ls : Array Slot} (hl : lv_has ls 9 [(4, .int (nI ii)), (0, .ref bb), (1, .ref x), (2, .ref mm), (3, .ref out)]) (kk : KK p l e s m below meth co bb E Q x mm out ii cells slots) : W p l e room_1 s m #[Value.ref bb] below meth co H locs cells slots Q (F0 m 420 ls []) := by
  have hT0 := hT
  obtain ⟨ly, L, ad, ly', L', ad', hX, hM, -⟩ := hT0
  have wf := hX.2.2.2
  have heq := hM.2.2.2.2
  have g1 := wf.sw
  have g2 := wf.sh'
  have g3 := wf.sl
  have g4 := wf.nw
  have g5 := wf.nh
  have g6 := wf.nl
  cases hv1 : isInS (xs (ii + 1)) (nI 0) (nI (c.R 10 0) - nI 1) with
  | false => exact lc_watch_b1 C0 hT hii hcs hl kk _ _ _ rfl rfl rfl hv1
  | true =>
    obtain ⟨i, hi, e1⟩ := isIn_of (by omega) hv1
    cases ha : (isInS (xs (ii + 2)) (nI 0) (nI 359) && isInS (xs (ii + 3)) (xs (ii + 2)) (nI 359)) with
    | false => exact lc_watch_b2 C0 hT hii hcs hl kk i _ _ e1 rfl rfl hi ha
    | true =>
      have h9 := (Bool.and_eq_true _ _).mp ha
      obtain ⟨a, ha1, e2⟩ := isIn_ofle (by decide) h9.1
      have h8 := h9.2
      rw [e2] at h8
      obtain ⟨b, hb1, hb2, e3⟩ := isIn_rng (by omega) (by decide) h8
      exact lc_watch_g C0 hT hii hcs hl kk i a b e1 e2 e3 hi (by rw [← e2]; exact h9.1) (by rw [← e3]; exact h8) (by omega) (by omega)
theorem ld_paint (C0 : LC p l s m co E bb Ln xs) {c : Cy} {th : Int32} {v0 : Int64} {H : Heap} {locs : List Loc} {x mm out : Nat} (hT : LT E s.heap x mm out c c th v0 H locs) {ii : Nat} (hii : ii + 7 ≤ Ln) {cells slots : Nat} (hcs : cells + 1100 ≤ 609960 ∧ slots + 14000 ≤ 7266223) {ls : Array Slot} (hl : lv_has ls 9 [(4, .int (nI ii)), (0, .ref bb), (1, .ref x), (2, .ref mm), (3, .ref out)]) (kk : KK p l e s m below meth co bb E Q x mm out ii cells slots) : W p l e room_1 s m #[Value.ref bb] below meth co H locs cells slots Q (F0 m 500 ls []) := by
  have hT0 := hT
  obtain ⟨ly, L, ad, ly', L', ad', hX, hM, -⟩ := hT0
  have wf := hX.2.2.2
  have heq := hM.2.2.2.2
  have g1 := wf.sw
  have g2 := wf.sh'
  have g3 := wf.sl
  have g4 := wf.nw
  have g5 := wf.nh
  have g6 := wf.nl
  cases hv1 : isInS (xs (ii + 1)) (nI 0) (nI (c.R 10 1) - nI 1) with
  | false => exact lc_paint_b1 C0 hT hii hcs hl kk _ _ _ _ _ _ rfl rfl rfl rfl rfl rfl hv1
  | true =>
    obtain ⟨h, hh, e1⟩ := isIn_of (by omega) hv1
    cases hv2 : isInS (xs (ii + 2)) (nI 0) (nI (c.R 10 0) - nI 1) with
    | false => exact lc_paint_b2 C0 hT hii hcs hl kk h _ _ _ _ _ e1 rfl rfl rfl rfl rfl hh hv2
    | true =>
      obtain ⟨i, hi, e2⟩ := isIn_of (by omega) hv2
      cases ha : paiOK c i (xs (ii + 3)) (xs (ii + 4)) (xs (ii + 5)) (xs (ii + 6)) with
      | false => exact lc_paint_b3 C0 hT hii hcs hl kk h i _ _ _ _ e1 e2 rfl rfl rfl rfl hh hi ha
      | true =>
        have hi2 : i < c.R 11 0 := by omega
        have hh2 : h < c.R 11 1 := by omega
        have h9 := ha
        unfold paiOK at h9
        simp only [Bool.and_eq_true] at h9
        obtain ⟨⟨h1, h2⟩, h3⟩ := h9
        obtain ⟨f, u, e3, e4, hu1, hf1⟩ := has_of wf hi2 h1
        obtain ⟨kd, hk1, e5⟩ := isIn_ofle (by decide) h2
        rw [e3, e4] at h1
        have gw := wf.wd hi2
        by_cases hs : 360 - c.R 3 h < u * mcS c h kd ∨ 60 ≤ c.R 10 2
        · exact lc_paint_b4 C0 hT hii hcs hl kk h i f u kd _ e1 e2 e3 e4 e5 rfl hh hi h1 (by omega) (by omega) h3 hs
        · exact lc_paint_g C0 hT hii hcs hl kk h i f u kd _ e1 e2 e3 e4 e5 rfl hh hi h1 ⟨hu1, by omega⟩ hf1 (by omega) h3 (by omega) (by omega) heq.2.2
theorem ld_buff (C0 : LC p l s m co E bb Ln xs) {c : Cy} {th : Int32} {v0 : Int64} {H : Heap} {locs : List Loc} {x mm out : Nat} (hT : LT E s.heap x mm out c c th v0 H locs) {ii : Nat} (hii : ii + 7 ≤ Ln) {cells slots : Nat} (hcs : cells + 1100 ≤ 609960 ∧ slots + 14000 ≤ 7266223) {ls : Array Slot} (hl : lv_has ls 9 [(4, .int (nI ii)), (0, .ref bb), (1, .ref x), (2, .ref mm), (3, .ref out)]) (kk : KK p l e s m below meth co bb E Q x mm out ii cells slots) : W p l e room_1 s m #[Value.ref bb] below meth co H locs cells slots Q (F0 m 618 ls []) := by
  have hT0 := hT
  obtain ⟨ly, L, ad, ly', L', ad', hX, hM, -⟩ := hT0
  have wf := hX.2.2.2
  have heq := hM.2.2.2.2
  have g1 := wf.sw
  have g2 := wf.sh'
  have g3 := wf.sl
  have g4 := wf.nw
  have g5 := wf.nh
  have g6 := wf.nl
  cases hv1 : isInS (xs (ii + 1)) (nI 0) (nI (c.R 10 0) - nI 1) with
  | false => exact lc_buff_b1 C0 hT hii hcs hl kk _ rfl hv1
  | true =>
    obtain ⟨i, hi, e1⟩ := isIn_of (by omega) hv1
    by_cases hc : c.I 0 0 < nI (ctbS c i)
    · exact lc_buff_b2 C0 hT hii hcs hl kk i e1 hi hc
    · exact lc_buff_g C0 hT hii hcs hl kk i e1 hi hc
theorem ld_clear (C0 : LC p l s m co E bb Ln xs) {c : Cy} {th : Int32} {v0 : Int64} {H : Heap} {locs : List Loc} {x mm out : Nat} (hT : LT E s.heap x mm out c c th v0 H locs) {ii : Nat} (hii : ii + 7 ≤ Ln) {cells slots : Nat} (hcs : cells + 1100 ≤ 609960 ∧ slots + 14000 ≤ 7266223) {ls : Array Slot} (hl : lv_has ls 9 [(4, .int (nI ii)), (0, .ref bb), (1, .ref x), (2, .ref mm), (3, .ref out)]) (kk : KK p l e s m below meth co bb E Q x mm out ii cells slots) : W p l e room_1 s m #[Value.ref bb] below meth co H locs cells slots Q (F0 m 674 ls []) := by
  have hT0 := hT
  obtain ⟨ly, L, ad, ly', L', ad', hX, hM, -⟩ := hT0
  have wf := hX.2.2.2
  have heq := hM.2.2.2.2
  have g1 := wf.sw
  have g2 := wf.sh'
  have g3 := wf.sl
  have g4 := wf.nw
  have g5 := wf.nh
  have g6 := wf.nl
  cases hv1 : isInS (xs (ii + 1)) (nI 0) (nI (c.R 10 0) - nI 1) with
  | false => exact lc_clear_b1 C0 hT hii hcs hl kk _ rfl hv1
  | true =>
    obtain ⟨i, hi, e1⟩ := isIn_of (by omega) hv1
    exact lc_clear_g C0 hT hii hcs hl kk i e1 hi
theorem ld_sell (C0 : LC p l s m co E bb Ln xs) {c : Cy} {th : Int32} {v0 : Int64} {H : Heap} {locs : List Loc} {x mm out : Nat} (hT : LT E s.heap x mm out c c th v0 H locs) {ii : Nat} (hii : ii + 7 ≤ Ln) {cells slots : Nat} (hcs : cells + 1100 ≤ 609960 ∧ slots + 14000 ≤ 7266223) {ls : Array Slot} (hl : lv_has ls 9 [(4, .int (nI ii)), (0, .ref bb), (1, .ref x), (2, .ref mm), (3, .ref out)]) (kk : KK p l e s m below meth co bb E Q x mm out ii cells slots) : W p l e room_1 s m #[Value.ref bb] below meth co H locs cells slots Q (F0 m 730 ls []) := by
  have hT0 := hT
  obtain ⟨ly, L, ad, ly', L', ad', hX, hM, -⟩ := hT0
  have wf := hX.2.2.2
  have heq := hM.2.2.2.2
  have g1 := wf.sw
  have g2 := wf.sh'
  have g3 := wf.sl
  have g4 := wf.nw
  have g5 := wf.nh
  have g6 := wf.nl
  cases hv1 : isInS (xs (ii + 1)) (nI 0) (nI (c.R 10 2) - nI 1) with
  | false => exact lc_sell_b1 C0 hT hii hcs hl kk _ rfl hv1
  | true =>
    obtain ⟨j, hj, e1⟩ := isIn_of (by omega) hv1
    cases hs : decide (0 < seenS c j) with
    | false => exact lc_sell_b2 C0 hT hii hcs hl kk j e1 hj hs
    | true => exact lc_sell_g C0 hT hii hcs hl kk j e1 hj hs
theorem ld_waive (C0 : LC p l s m co E bb Ln xs) {c : Cy} {th : Int32} {v0 : Int64} {H : Heap} {locs : List Loc} {x mm out : Nat} (hT : LT E s.heap x mm out c c th v0 H locs) {ii : Nat} (hii : ii + 7 ≤ Ln) {cells slots : Nat} (hcs : cells + 1100 ≤ 609960 ∧ slots + 14000 ≤ 7266223) {ls : Array Slot} (hl : lv_has ls 9 [(4, .int (nI ii)), (0, .ref bb), (1, .ref x), (2, .ref mm), (3, .ref out)]) (kk : KK p l e s m below meth co bb E Q x mm out ii cells slots) : W p l e room_1 s m #[Value.ref bb] below meth co H locs cells slots Q (F0 m 786 ls []) := by
  have hT0 := hT
  obtain ⟨ly, L, ad, ly', L', ad', hX, hM, -⟩ := hT0
  have wf := hX.2.2.2
  have heq := hM.2.2.2.2
  have g1 := wf.sw
  have g2 := wf.sh'
  have g3 := wf.sl
  have g4 := wf.nw
  have g5 := wf.nh
  have g6 := wf.nl
  cases hv1 : isInS (xs (ii + 1)) (nI 0) (nI (c.R 10 2) - nI 1) with
  | false => exact lc_waive_b1 C0 hT hii hcs hl kk _ rfl hv1
  | true =>
    obtain ⟨j, hj, e1⟩ := isIn_of (by omega) hv1
    exact lc_waive_g C0 hT hii hcs hl kk j e1 hj
theorem ld_remember (C0 : LC p l s m co E bb Ln xs) {c : Cy} {th : Int32} {v0 : Int64} {H : Heap} {locs : List Loc} {x mm out : Nat} (hT : LT E s.heap x mm out c c th v0 H locs) {ii : Nat} (hii : ii + 7 ≤ Ln) {cells slots : Nat} (hcs : cells + 1100 ≤ 609960 ∧ slots + 14000 ≤ 7266223) {ls : Array Slot} (hl : lv_has ls 9 [(4, .int (nI ii)), (0, .ref bb), (1, .ref x), (2, .ref mm), (3, .ref out)]) (kk : KK p l e s m below meth co bb E Q x mm out ii cells slots) : W p l e room_1 s m #[Value.ref bb] below meth co H locs cells slots Q (F0 m 849 ls []) := by
  have hT0 := hT
  obtain ⟨ly, L, ad, ly', L', ad', hX, hM, -⟩ := hT0
  have wf := hX.2.2.2
  have heq := hM.2.2.2.2
  have g1 := wf.sw
  have g2 := wf.sh'
  have g3 := wf.sl
  have g4 := wf.nw
  have g5 := wf.nh
  have g6 := wf.nl
  cases hv1 : isInS (xs (ii + 1)) (nI 0) (nI (c.R 10 2) - nI 1) with
  | false => exact lc_remember_b1 C0 hT hii hcs hl kk _ rfl hv1
  | true =>
    obtain ⟨j, hj, e1⟩ := isIn_of (by omega) hv1
    exact lc_remember_g C0 hT hii hcs hl kk j e1 hj
theorem ld_pay (C0 : LC p l s m co E bb Ln xs) {c : Cy} {th : Int32} {v0 : Int64} {H : Heap} {locs : List Loc} {x mm out : Nat} (hT : LT E s.heap x mm out c c th v0 H locs) {ii : Nat} (hii : ii + 7 ≤ Ln) {cells slots : Nat} (hcs : cells + 1100 ≤ 609960 ∧ slots + 14000 ≤ 7266223) {ls : Array Slot} (hl : lv_has ls 9 [(4, .int (nI ii)), (0, .ref bb), (1, .ref x), (2, .ref mm), (3, .ref out)]) (kk : KK p l e s m below meth co bb E Q x mm out ii cells slots) : W p l e room_1 s m #[Value.ref bb] below meth co H locs cells slots Q (F0 m 912 ls []) := by
  have hT0 := hT
  obtain ⟨ly, L, ad, ly', L', ad', hX, hM, -⟩ := hT0
  have wf := hX.2.2.2
  have heq := hM.2.2.2.2
  have g1 := wf.sw
  have g2 := wf.sh'
  have g3 := wf.sl
  have g4 := wf.nw
  have g5 := wf.nh
  have g6 := wf.nl
  cases hv1 : isInS (xs (ii + 1)) (nI 0) (nI (c.R 10 1) - nI 1) with
  | false => exact lc_pay_b1 C0 hT hii hcs hl kk _ rfl hv1
  | true =>
    obtain ⟨h, hh, e1⟩ := isIn_of (by omega) hv1
    exact lc_pay_g C0 hT hii hcs hl kk h e1 hh
theorem ld_pass (C0 : LC p l s m co E bb Ln xs) {c : Cy} {th : Int32} {v0 : Int64} {H : Heap} {locs : List Loc} {x mm out : Nat} (hT : LT E s.heap x mm out c c th v0 H locs) {ii : Nat} (hii : ii + 7 ≤ Ln) {cells slots : Nat} (hcs : cells + 1100 ≤ 609960 ∧ slots + 14000 ≤ 7266223) {ls : Array Slot} (hl : lv_has ls 9 [(4, .int (nI ii)), (0, .ref bb), (1, .ref x), (2, .ref mm), (3, .ref out)]) (kk : KK p l e s m below meth co bb E Q x mm out ii cells slots) : W p l e room_1 s m #[Value.ref bb] below meth co H locs cells slots Q (F0 m 968 ls []) := by
  have hT0 := hT
  obtain ⟨ly, L, ad, ly', L', ad', hX, hM, -⟩ := hT0
  have wf := hX.2.2.2
  have heq := hM.2.2.2.2
  have g1 := wf.sw
  have g2 := wf.sh'
  have g3 := wf.sl
  have g4 := wf.nw
  have g5 := wf.nh
  have g6 := wf.nl
  cases hv : isInS (xs (ii + 1)) (nI 1) (nI 30) with
  | false => exact lc_pass_b1 C0 hT hii hcs hl kk _ rfl hv
  | true =>
    obtain ⟨n, hn1, hn2, e1⟩ := isIn_rng (by decide) (by decide) hv
    by_cases ht : 400 < c.R 0 0 + n
    · exact lc_pass_b2 C0 hT hii hcs hl kk n e1 hn1 hn2 ht
    · exact lc_pass_g C0 hT hii hcs hl kk n e1 hn1 hn2 (by omega)
theorem ld_ofWall (C0 : LC p l s m co E bb Ln xs) {c : Cy} {th : Int32} {v0 : Int64} {H : Heap} {locs : List Loc} {x mm out : Nat} (hT : LT E s.heap x mm out c c th v0 H locs) {ii : Nat} (hii : ii + 7 ≤ Ln) {cells slots : Nat} (hcs : cells + 1100 ≤ 609960 ∧ slots + 14000 ≤ 7266223) {ls : Array Slot} (hl : lv_has ls 9 [(4, .int (nI ii)), (0, .ref bb), (1, .ref x), (2, .ref mm), (3, .ref out)]) (kk : KK p l e s m below meth co bb E Q x mm out ii cells slots) : W p l e room_1 s m #[Value.ref bb] below meth co H locs cells slots Q (F0 m 1024 ls []) := by
  have hT0 := hT
  obtain ⟨ly, L, ad, ly', L', ad', hX, hM, -⟩ := hT0
  have wf := hX.2.2.2
  have heq := hM.2.2.2.2
  have g1 := wf.sw
  have g2 := wf.sh'
  have g3 := wf.sl
  have g4 := wf.nw
  have g5 := wf.nh
  have g6 := wf.nl
  cases hv1 : isInS (xs (ii + 1)) (nI 0) (nI (c.R 10 0) - nI 1) with
  | false => exact lc_ofWall_b1 C0 hT hii hcs hl kk _ _ rfl rfl hv1
  | true =>
    obtain ⟨i, hi, e1⟩ := isIn_of (by omega) hv1
    cases hw : isInS (xs (ii + 2)) (nI 0) (nI 6) with
    | false => exact lc_ofWall_b2 C0 hT hii hcs hl kk i _ e1 rfl hi hw
    | true =>
      obtain ⟨w, hw1, e2⟩ := isIn_ofle (by decide) hw
      exact lc_ofWall_g C0 hT hii hcs hl kk i w e1 e2 hi hw1
theorem ld_shows (C0 : LC p l s m co E bb Ln xs) {c : Cy} {th : Int32} {v0 : Int64} {H : Heap} {locs : List Loc} {x mm out : Nat} (hT : LT E s.heap x mm out c c th v0 H locs) {ii : Nat} (hii : ii + 7 ≤ Ln) {cells slots : Nat} (hcs : cells + 1100 ≤ 609960 ∧ slots + 14000 ≤ 7266223) {ls : Array Slot} (hl : lv_has ls 9 [(4, .int (nI ii)), (0, .ref bb), (1, .ref x), (2, .ref mm), (3, .ref out)]) (kk : KK p l e s m below meth co bb E Q x mm out ii cells slots) : W p l e room_1 s m #[Value.ref bb] below meth co H locs cells slots Q (F0 m 1092 ls []) := by
  have hT0 := hT
  obtain ⟨ly, L, ad, ly', L', ad', hX, hM, -⟩ := hT0
  have wf := hX.2.2.2
  have heq := hM.2.2.2.2
  have g1 := wf.sw
  have g2 := wf.sh'
  have g3 := wf.sl
  have g4 := wf.nw
  have g5 := wf.nh
  have g6 := wf.nl
  cases hv1 : isInS (xs (ii + 1)) (nI 0) (nI (c.R 10 0) - nI 1) with
  | false => exact lc_shows_b1 C0 hT hii hcs hl kk _ _ rfl rfl hv1
  | true =>
    obtain ⟨i, hi, e1⟩ := isIn_of (by omega) hv1
    have gw := wf.wd (i := i) (by omega)
    cases hw : isInS (xs (ii + 2)) (nI 0) (nI (c.R 1 i) - nI 1) with
    | false => exact lc_shows_b2 C0 hT hii hcs hl kk i _ e1 rfl hi hw
    | true =>
      obtain ⟨k, hk, e2⟩ := isIn_of (by omega) hw
      exact lc_shows_g C0 hT hii hcs hl kk i k e1 e2 hi hk
theorem ld_ofHand (C0 : LC p l s m co E bb Ln xs) {c : Cy} {th : Int32} {v0 : Int64} {H : Heap} {locs : List Loc} {x mm out : Nat} (hT : LT E s.heap x mm out c c th v0 H locs) {ii : Nat} (hii : ii + 7 ≤ Ln) {cells slots : Nat} (hcs : cells + 1100 ≤ 609960 ∧ slots + 14000 ≤ 7266223) {ls : Array Slot} (hl : lv_has ls 9 [(4, .int (nI ii)), (0, .ref bb), (1, .ref x), (2, .ref mm), (3, .ref out)]) (kk : KK p l e s m below meth co bb E Q x mm out ii cells slots) : W p l e room_1 s m #[Value.ref bb] below meth co H locs cells slots Q (F0 m 1160 ls []) := by
  have hT0 := hT
  obtain ⟨ly, L, ad, ly', L', ad', hX, hM, -⟩ := hT0
  have wf := hX.2.2.2
  have heq := hM.2.2.2.2
  have g1 := wf.sw
  have g2 := wf.sh'
  have g3 := wf.sl
  have g4 := wf.nw
  have g5 := wf.nh
  have g6 := wf.nl
  cases hv1 : isInS (xs (ii + 1)) (nI 0) (nI (c.R 10 1) - nI 1) with
  | false => exact lc_ofHand_b1 C0 hT hii hcs hl kk _ _ rfl rfl hv1
  | true =>
    obtain ⟨h, hh, e1⟩ := isIn_of (by omega) hv1
    cases hw : isInS (xs (ii + 2)) (nI 0) (nI 10) with
    | false => exact lc_ofHand_b2 C0 hT hii hcs hl kk h _ e1 rfl hh hw
    | true =>
      obtain ⟨w, hw1, e2⟩ := isIn_ofle (by decide) hw
      exact lc_ofHand_g C0 hT hii hcs hl kk h w e1 e2 hh hw1
theorem ld_ofLayer (C0 : LC p l s m co E bb Ln xs) {c : Cy} {th : Int32} {v0 : Int64} {H : Heap} {locs : List Loc} {x mm out : Nat} (hT : LT E s.heap x mm out c c th v0 H locs) {ii : Nat} (hii : ii + 7 ≤ Ln) {cells slots : Nat} (hcs : cells + 1100 ≤ 609960 ∧ slots + 14000 ≤ 7266223) {ls : Array Slot} (hl : lv_has ls 9 [(4, .int (nI ii)), (0, .ref bb), (1, .ref x), (2, .ref mm), (3, .ref out)]) (kk : KK p l e s m below meth co bb E Q x mm out ii cells slots) : W p l e room_1 s m #[Value.ref bb] below meth co H locs cells slots Q (F0 m 1228 ls []) := by
  have hT0 := hT
  obtain ⟨ly, L, ad, ly', L', ad', hX, hM, -⟩ := hT0
  have wf := hX.2.2.2
  have heq := hM.2.2.2.2
  have g1 := wf.sw
  have g2 := wf.sh'
  have g3 := wf.sl
  have g4 := wf.nw
  have g5 := wf.nh
  have g6 := wf.nl
  cases hv1 : isInS (xs (ii + 1)) (nI 0) (nI (c.R 10 2) - nI 1) with
  | false => exact lc_ofLayer_b1 C0 hT hii hcs hl kk _ _ rfl rfl hv1
  | true =>
    obtain ⟨j, hj, e1⟩ := isIn_of (by omega) hv1
    cases hw : isInS (xs (ii + 2)) (nI 0) (nI 13) with
    | false => exact lc_ofLayer_b2 C0 hT hii hcs hl kk j _ e1 rfl hj hw
    | true =>
      obtain ⟨w, hw1, e2⟩ := isIn_ofle (by decide) hw
      exact lc_ofLayer_g C0 hT hii hcs hl kk j w e1 e2 hj hw1
theorem ld_wrongs (C0 : LC p l s m co E bb Ln xs) {c : Cy} {th : Int32} {v0 : Int64} {H : Heap} {locs : List Loc} {x mm out : Nat} (hT : LT E s.heap x mm out c c th v0 H locs) {ii : Nat} (hii : ii + 7 ≤ Ln) {cells slots : Nat} (hcs : cells + 1100 ≤ 609960 ∧ slots + 14000 ≤ 7266223) {ls : Array Slot} (hl : lv_has ls 9 [(4, .int (nI ii)), (0, .ref bb), (1, .ref x), (2, .ref mm), (3, .ref out)]) (kk : KK p l e s m below meth co bb E Q x mm out ii cells slots) : W p l e room_1 s m #[Value.ref bb] below meth co H locs cells slots Q (F0 m 1296 ls []) := by
  have hT0 := hT
  obtain ⟨ly, L, ad, ly', L', ad', hX, hM, -⟩ := hT0
  have wf := hX.2.2.2
  have heq := hM.2.2.2.2
  have g1 := wf.sw
  have g2 := wf.sh'
  have g3 := wf.sl
  have g4 := wf.nw
  have g5 := wf.nh
  have g6 := wf.nl
  cases hv1 : isInS (xs (ii + 1)) (nI 0) (nI (c.R 10 1) - nI 1) with
  | false => exact lc_wrongs_b1 C0 hT hii hcs hl kk _ _ rfl rfl hv1
  | true =>
    obtain ⟨h, hh, e1⟩ := isIn_of (by omega) hv1
    cases hv2 : isInS (xs (ii + 2)) (nI 0) (nI (c.R 10 1) - nI 1) with
    | false => exact lc_wrongs_b2 C0 hT hii hcs hl kk h _ e1 rfl hh hv2
    | true =>
      obtain ⟨g, hg, e2⟩ := isIn_of (by omega) hv2
      exact lc_wrongs_g C0 hT hii hcs hl kk h g e1 e2 hh hg
theorem ld_likeness (C0 : LC p l s m co E bb Ln xs) {c : Cy} {th : Int32} {v0 : Int64} {H : Heap} {locs : List Loc} {x mm out : Nat} (hT : LT E s.heap x mm out c c th v0 H locs) {ii : Nat} (hii : ii + 7 ≤ Ln) {cells slots : Nat} (hcs : cells + 1100 ≤ 609960 ∧ slots + 14000 ≤ 7266223) {ls : Array Slot} (hl : lv_has ls 9 [(4, .int (nI ii)), (0, .ref bb), (1, .ref x), (2, .ref mm), (3, .ref out)]) (kk : KK p l e s m below meth co bb E Q x mm out ii cells slots) : W p l e room_1 s m #[Value.ref bb] below meth co H locs cells slots Q (F0 m 1364 ls []) := by
  have hT0 := hT
  obtain ⟨ly, L, ad, ly', L', ad', hX, hM, -⟩ := hT0
  have wf := hX.2.2.2
  have heq := hM.2.2.2.2
  have g1 := wf.sw
  have g2 := wf.sh'
  have g3 := wf.sl
  have g4 := wf.nw
  have g5 := wf.nh
  have g6 := wf.nl
  cases hv1 : isInS (xs (ii + 1)) (nI 0) (nI (c.R 10 2) - nI 1) with
  | false => exact lc_likeness_b1 C0 hT hii hcs hl kk _ _ rfl rfl hv1
  | true =>
    obtain ⟨j, hj, e1⟩ := isIn_of (by omega) hv1
    cases hv2 : isInS (xs (ii + 2)) (nI 0) (nI (c.R 10 2) - nI 1) with
    | false => exact lc_likeness_b2 C0 hT hii hcs hl kk j _ e1 rfl hj hv2
    | true =>
      obtain ⟨k, hk, e2⟩ := isIn_of (by omega) hv2
      exact lc_likeness_g C0 hT hii hcs hl kk j k e1 e2 hj hk
theorem ld_many (C0 : LC p l s m co E bb Ln xs) {c : Cy} {th : Int32} {v0 : Int64} {H : Heap} {locs : List Loc} {x mm out : Nat} (hT : LT E s.heap x mm out c c th v0 H locs) {ii : Nat} (hii : ii + 7 ≤ Ln) {cells slots : Nat} (hcs : cells + 1100 ≤ 609960 ∧ slots + 14000 ≤ 7266223) {ls : Array Slot} (hl : lv_has ls 9 [(4, .int (nI ii)), (0, .ref bb), (1, .ref x), (2, .ref mm), (3, .ref out)]) (kk : KK p l e s m below meth co bb E Q x mm out ii cells slots) : W p l e room_1 s m #[Value.ref bb] below meth co H locs cells slots Q (F0 m 1432 ls []) := by
  have hT0 := hT
  obtain ⟨ly, L, ad, ly', L', ad', hX, hM, -⟩ := hT0
  have wf := hX.2.2.2
  have heq := hM.2.2.2.2
  have g1 := wf.sw
  have g2 := wf.sh'
  have g3 := wf.sl
  have g4 := wf.nw
  have g5 := wf.nh
  have g6 := wf.nl
  cases hw : isInS (xs (ii + 1)) (nI 0) (nI 11) with
  | false => exact lc_many_b C0 hT hii hcs hl kk _ rfl hw
  | true =>
    obtain ⟨w, hw1, e1⟩ := isIn_ofle (by decide) hw
    exact lc_many_g C0 hT hii hcs hl kk w e1 hw1
theorem ld_bestFrom (C0 : LC p l s m co E bb Ln xs) {c : Cy} {th : Int32} {v0 : Int64} {H : Heap} {locs : List Loc} {x mm out : Nat} (hT : LT E s.heap x mm out c c th v0 H locs) {ii : Nat} (hii : ii + 7 ≤ Ln) {cells slots : Nat} (hcs : cells + 1100 ≤ 609960 ∧ slots + 14000 ≤ 7266223) {ls : Array Slot} (hl : lv_has ls 9 [(4, .int (nI ii)), (0, .ref bb), (1, .ref x), (2, .ref mm), (3, .ref out)]) (kk : KK p l e s m below meth co bb E Q x mm out ii cells slots) : W p l e room_1 s m #[Value.ref bb] below meth co H locs cells slots Q (F0 m 1529 ls []) := by
  have hT0 := hT
  obtain ⟨ly, L, ad, ly', L', ad', hX, hM, -⟩ := hT0
  have wf := hX.2.2.2
  have heq := hM.2.2.2.2
  have g1 := wf.sw
  have g2 := wf.sh'
  have g3 := wf.sl
  have g4 := wf.nw
  have g5 := wf.nh
  have g6 := wf.nl
  cases hv1 : isInS (xs (ii + 1)) (nI 0) (nI (c.R 10 1) - nI 1) with
  | false => exact lc_bestFrom_b1 C0 hT hii hcs hl kk _ _ _ _ rfl rfl rfl rfl hv1
  | true =>
    obtain ⟨h, hh, e1⟩ := isIn_of (by omega) hv1
    cases hv2 : isInS (xs (ii + 2)) (nI 0) (nI (c.R 10 0) - nI 1) with
    | false => exact lc_bestFrom_b2 C0 hT hii hcs hl kk h _ _ _ e1 rfl rfl rfl hh hv2
    | true =>
      obtain ⟨i, hi, e2⟩ := isIn_of (by omega) hv2
      cases hu : isInS (xs (ii + 3)) (nI 1) (nI 16) with
      | false => exact lc_bestFrom_b3 C0 hT hii hcs hl kk h i _ _ e1 e2 rfl rfl hh hi hu
      | true =>
        cases hk : isInS (xs (ii + 4)) (nI 0) (nI 3) with
        | false => exact lc_bestFrom_b4 C0 hT hii hcs hl kk h i _ _ e1 e2 rfl rfl hh hi hu hk
        | true =>
          obtain ⟨u, hu1, hu2, e3⟩ := isIn_rng (by decide) (by decide) hu
          obtain ⟨kd, hk1, e4⟩ := isIn_ofle (by decide) hk
          exact lc_bestFrom_g C0 hT hii hcs hl kk h i u kd e1 e2 e3 e4 hh hi hu1 hu2 (by omega)
theorem ld_wouldWrong (C0 : LC p l s m co E bb Ln xs) {c : Cy} {th : Int32} {v0 : Int64} {H : Heap} {locs : List Loc} {x mm out : Nat} (hT : LT E s.heap x mm out c c th v0 H locs) {ii : Nat} (hii : ii + 7 ≤ Ln) {cells slots : Nat} (hcs : cells + 1100 ≤ 609960 ∧ slots + 14000 ≤ 7266223) {ls : Array Slot} (hl : lv_has ls 9 [(4, .int (nI ii)), (0, .ref bb), (1, .ref x), (2, .ref mm), (3, .ref out)]) (kk : KK p l e s m below meth co bb E Q x mm out ii cells slots) : W p l e room_1 s m #[Value.ref bb] below meth co H locs cells slots Q (F0 m 1621 ls []) := by
  have hT0 := hT
  obtain ⟨ly, L, ad, ly', L', ad', hX, hM, -⟩ := hT0
  have wf := hX.2.2.2
  have heq := hM.2.2.2.2
  have g1 := wf.sw
  have g2 := wf.sh'
  have g3 := wf.sl
  have g4 := wf.nw
  have g5 := wf.nh
  have g6 := wf.nl
  cases hv1 : isInS (xs (ii + 1)) (nI 0) (nI (c.R 10 1) - nI 1) with
  | false => exact lc_wouldWrong_b1 C0 hT hii hcs hl kk _ _ _ _ _ rfl rfl rfl rfl rfl hv1
  | true =>
    obtain ⟨h, hh, e1⟩ := isIn_of (by omega) hv1
    cases hv2 : isInS (xs (ii + 2)) (nI 0) (nI (c.R 10 0) - nI 1) with
    | false => exact lc_wouldWrong_b2 C0 hT hii hcs hl kk h _ _ _ _ e1 rfl rfl rfl rfl hh hv2
    | true =>
      obtain ⟨i, hi, e2⟩ := isIn_of (by omega) hv2
      cases hf : hasS c i (xs (ii + 3)) (xs (ii + 4)) with
      | false => exact lc_wouldWrong_b3 C0 hT hii hcs hl kk h i _ _ _ e1 e2 rfl rfl rfl hh hi hf
      | true =>
        cases hk : isInS (xs (ii + 5)) (nI 0) (nI 3) with
        | false => exact lc_wouldWrong_b4 C0 hT hii hcs hl kk h i _ _ _ e1 e2 rfl rfl rfl hh hi hf hk
        | true =>
          obtain ⟨f, u, e3, e4, hu1, hf1⟩ := has_of wf (show i < c.R 11 0 by omega) hf
          obtain ⟨kd, hk1, e5⟩ := isIn_ofle (by decide) hk
          exact lc_wouldWrong_g C0 hT hii hcs hl kk h i f u kd e1 e2 e3 e4 e5 hh hi hf1 hu1 (by omega)
theorem ld_wouldFame (C0 : LC p l s m co E bb Ln xs) {c : Cy} {th : Int32} {v0 : Int64} {H : Heap} {locs : List Loc} {x mm out : Nat} (hT : LT E s.heap x mm out c c th v0 H locs) {ii : Nat} (hii : ii + 7 ≤ Ln) {cells slots : Nat} (hcs : cells + 1100 ≤ 609960 ∧ slots + 14000 ≤ 7266223) {ls : Array Slot} (hl : lv_has ls 9 [(4, .int (nI ii)), (0, .ref bb), (1, .ref x), (2, .ref mm), (3, .ref out)]) (kk : KK p l e s m below meth co bb E Q x mm out ii cells slots) : W p l e room_1 s m #[Value.ref bb] below meth co H locs cells slots Q (F0 m 1738 ls []) := by
  have hT0 := hT
  obtain ⟨ly, L, ad, ly', L', ad', hX, hM, -⟩ := hT0
  have wf := hX.2.2.2
  have heq := hM.2.2.2.2
  have g1 := wf.sw
  have g2 := wf.sh'
  have g3 := wf.sl
  have g4 := wf.nw
  have g5 := wf.nh
  have g6 := wf.nl
  cases hv1 : isInS (xs (ii + 1)) (nI 0) (nI (c.R 10 1) - nI 1) with
  | false => exact lc_wouldFame_b1 C0 hT hii hcs hl kk _ _ rfl rfl hv1
  | true =>
    obtain ⟨h, hh, e1⟩ := isIn_of (by omega) hv1
    cases hw : isInS (xs (ii + 2)) (nI 0) (nI 30) with
    | false => exact lc_wouldFame_b2 C0 hT hii hcs hl kk h _ e1 rfl hh hw
    | true =>
      obtain ⟨w, hw1, e2⟩ := isIn_ofle (by decide) hw
      exact lc_wouldFame_g C0 hT hii hcs hl kk h w e1 e2 hh hw1
end CAS
