/-! the reference's writers -/
theorem ctu_ne {ct : Nat → Nat → Option va_E} {k i k' i' : Nat} {e x : va_E} (h : ¬ (k' = k ∧ i' = i)) (he : ct k' i' = some x) : ctu ct k i e k' i' = some x := (if_neg h).trans he
theorem wat_ext {E : En} {c : Cy} {th : Int32} {ly : Ly} {ad : Nat → Nat → Nat} {i a b : Nat} (hi : i < c.R 11 0) (hb : b < 2 ^ 31) : ∀ k z, cM E (c.R, waI c i a b, c.B, c.Wr, c.sh) th ly ad k z = ctu (ctu (cM E c th ly ad) 3 i (.inr (8, (mWa c ad i).set 6 (.int (nI a))))) 3 i (.inr (8, ((mWa c ad i).set 6 (.int (nI a))).set 7 (.int (nI b)))) k z := by
  intro k z
  unfold ctu
  by_cases q : k = 3 ∧ z = i
  · rw [if_pos q, q.1, q.2, show cM E (c.R, waI c i a b, c.B, c.Wr, c.sh) th ly ad 3 i = _ from cM_3 hi]
    have h1 : waI c i a b 7 i = nI b := up2_same _ _ _ _
    have h2 : waI c i a b 6 i = nI a := (up2_a _ _ (by decide)).trans (up2_same _ _ _ _)
    have h3 : mfr (c.R, waI c i a b, c.B, c.Wr, c.sh) i = nI a := by
      show (if waI c i a b 7 i = -1 then -1 else waI c i a b 6 i) = nI a
      rw [h1, h2, if_neg (nI_m1 hb)]
    have h4 : ∀ n, n ≠ 6 → n ≠ 7 → waI c i a b n i = c.I n i := fun n n6 n7 => (up2_a _ _ n7).trans (up2_a _ _ n6)
    show some (Sum.inr (8, [Value.int (waI c i a b 2 i), .int (waI c i a b 3 i), .int (nI (c.R 2 i)), .ref (ad 4 i), .int (waI c i a b 4 i), .int (waI c i a b 5 i), .int (mfr (c.R, waI c i a b, c.B, c.Wr, c.sh) i), .int (waI c i a b 7 i)])) = _
    rw [h3, h1, h4 2 (by decide) (by decide), h4 3 (by decide) (by decide), h4 4 (by decide) (by decide), h4 5 (by decide) (by decide)]
    rfl
  · rw [if_neg q, if_neg q]
    rcases k with _ | _ | _ | _ | _ | _ | _ | _ | k <;> first | rfl | (have q1 : ¬ z = i := fun w => q ⟨rfl, w⟩
                                                                       simp [cM, mWa, waI, up2, q1, mfr, Cy.R, Cy.I] <;> rfl)
theorem tb_s {c : Cy} {i k j : Nat} (h : c.sh i k = some j) (e : (!c.B 1 j || !permS c (c.R 5 j) i) = true) : tbS c i k = true := by unfold tbS; rw [h]; exact e
theorem tb_f {c : Cy} {i k j : Nat} (h : c.sh i k = some j) (e : (!c.B 1 j || !permS c (c.R 5 j) i) = false) : tbS c i k = false := by unfold tbS; rw [h]; exact e
theorem tb_n {c : Cy} {i k : Nat} (h : c.sh i k = none) : tbS c i k = false := by unfold tbS; rw [h]
set_option maxHeartbeats 4000000 in
set_option maxRecDepth 100000 in
theorem mX6_bare (l : Launch) {E : En} {c : Cy} {th : Int32} {ly : Ly} {L : List Nat} {ad : Nat → Nat → Nat} {H0 : Heap} (hX : PM E c th ly L ad H0) (i : Nat) (hi : i < c.R 11 0) : MuI l yX6_bare cX6_bare 3 .int (rmk 1 0 0 26) [.ref (ad 3 i)] E H0 (nI (cntN (pntB c i) (c.R 1 i))) (fun H1 => PM E (c.R, c.I, c.B, c.Wr, mk1 c.sh i (c.R 1 i) (fun _ => true)) th ly L ad H1) (cA L H0) 0 0 := by
  obtain ⟨hP, hly, hLb, wf, eq0, eq1, eq2⟩ := id hX
  have wfx := wf
  refine ro_of (by decide) (Nat.le_of_ble_eq_true rfl) ?_
  intro p e s m below meth co ls hx hb hr hml hown hlocks hnm hC hU hl
  have hS : va_S (cA L H0) s.heap H0 [] := by rw [hU]; exact va_S.rf
  have hA : ∀ q, q ∈ L → cA L H0 q := fun q h => Or.inl h
  have hN : ∀ q, s.heap.size ≤ q → cA L H0 q := fun q h => Or.inr (by rw [← hU]; exact h)
  have hAb : ∀ q, cA L H0 q → bA E q := fun q h => h.elim (hLb q) (fun z => Nat.le_trans hC.2.2.2.1 (by rw [hU]; exact z))
  have hl : lv_has ls 3 [(0, .ref (ad 3 i))] := hl
  have gw := wf.wd hi
  have gm := mn_none wf hi
  refine lv_aload_n hx hb dX6_bare_0 rfl (lv_at hl 0 rfl) ?_
  refine pi_get hx hb hC hown hP fL_X6_33 3 i (cM_3 hi) (v := .ref (ad 4 i)) rfl dX6_bare_1 ?_
  have g_1 : 4 ≤ c.R 1 i ∧ c.R 1 i ≤ 16 := wfx.wd hi
  refine pi_alen (n := c.R 1 i) hx hb hC hP 4 i 0 rfl (cM_4 hi) dX6_bare_4 ?_
  have g_2 : 4 ≤ c.R 1 i ∧ c.R 1 i ≤ 16 := wfx.wd hi
  refine lv_aload_n hx hb dX6_bare_5 rfl (lv_at hl 0 rfl) ?_
  refine lv_iconst (v := -1) hx hb dX6_bare_6 (by decide) ?_
  refine ro_V (As := [.int (-1)]) (h0 := ad 3 i) (rest := [.int (nI (c.R 1 i))]) (v := nI (mnS c i (-1))) hx hb hml hown hC hS hAb (mX6_many l hX i (-1) hi) kV_X6_37 ⟨rfl, rfl⟩ ⟨Nat.le_of_ble_eq_true rfl, Nat.le_of_ble_eq_true rfl⟩ (hP.recv hC (cM_3 hi) rfl) rfl hl (Nat.le_of_ble_eq_true rfl) ⟨show _ ≤ (0 : Nat) by omega, show _ ≤ (0 : Nat) by omega⟩ dX6_bare_7 ?_
  refine lv_isubN hx hb dX6_bare_10 (by omega) ?_
  refine lv_istore_n (lv' := [(1, .int (nI ((c.R 1 i) - (mnS c i (-1))))), (0, .ref (ad 3 i))]) hx hb dX6_bare_11 rfl hl (by decide) rfl (fun ls hl => ?_)
  refine lv_iconstN hx hb 0 dX6_bare_12 (by decide) ?_
  refine lv_istore_n (lv' := [(2, .int (nI 0)), (1, .int (nI ((c.R 1 i) - (mnS c i (-1))))), (0, .ref (ad 3 i))]) hx hb dX6_bare_13 rfl hl (by decide) rfl (fun ls hl => ?_)
  have lp14 : ∀ fu : Nat, ∀ (k : Nat), k ≤ c.R 1 i → c.R 1 i - k < fu → ∀ (H : Heap) (locs : List Loc), PM E (c.R, c.I, c.B, c.Wr, mk1 c.sh i k (fun _ => true)) th ly L ad H → va_S (cA L H0) s.heap H locs → ∀ ls : Array Slot, lv_has ls 3 [(0, .ref (ad 3 i)), (1, .int (nI (c.R 1 i - mnS c i (-1)))), (2, .int (nI k))] → W p l e (rmk 1 0 0 26) s m ([.ref (ad 3 i)] : List Value).toArray below meth co H locs 0 0 (MQ below (QiM (nI (cntN (pntB c i) (c.R 1 i))) (fun H1 => PM E (c.R, c.I, c.B, c.Wr, mk1 c.sh i (c.R 1 i) (fun _ => true)) th ly L ad H1) (cA L H0)) ([.ref (ad 3 i)] : List Value).toArray s 0 0 (cA L H0)) (F0 m 14 ls []) := by
    intro fu
    induction fu with
    | zero => intro k hk hfu; exact absurd hfu (Nat.not_lt_zero _)
    | succ fu ih14 =>
      intro k hk hfu H locs hX hS ls hl
      obtain ⟨hP, hly, hLb, wfx, ex0, ex1, ex2⟩ := id hX
      refine lv_iload_n hx hb dX6_bare_14 rfl (lv_at hl 2 rfl) ?_
      refine lv_aload_n hx hb dX6_bare_15 rfl (lv_at hl 0 rfl) ?_
      refine pi_get hx hb hC hown hP fL_X6_33 3 i (cM_3 hi) (v := .ref (ad 4 i)) rfl dX6_bare_16 ?_
      have g_3 : 4 ≤ c.R 1 i ∧ c.R 1 i ≤ 16 := wfx.wd hi
      refine pi_alen (n := c.R 1 i) hx hb hC hP 4 i 0 rfl (cM_4 hi) dX6_bare_19 ?_
      have g_4 : 4 ≤ c.R 1 i ∧ c.R 1 i ≤ 16 := wfx.wd hi
      refine lv_icmpN_ge (tgt := 36) hx hb dX6_bare_20 (by decide) (by omega) (by omega) (fun c_20 => ?_) (fun c_20 => ?_)
      · skip
        refine lv_iload_n hx hb dX6_bare_36 rfl (lv_at hl 1 rfl) ?_
        exact mu_iret (x := nI (c.R 1 i - mnS c i (-1))) hx hb hr hlocks hS (by have z : k = c.R 1 i := (by omega); show PM _ _ _ _ _ _ _; rw [← z]; exact hX) (congrArg nI (by omega)) dX6_bare_37
      · skip
        refine lv_aload_n hx hb dX6_bare_23 rfl (lv_at hl 0 rfl) ?_
        refine pi_get hx hb hC hown hP fL_X6_33 3 i (cM_3 hi) (v := .ref (ad 4 i)) rfl dX6_bare_24 ?_
        refine lv_iload_n hx hb dX6_bare_27 rfl (lv_at hl 2 rfl) ?_
        refine lv_iconst (v := -1) hx hb dX6_bare_28 (by decide) ?_
        refine pwM_shownN (R := c.R) (I := c.I) (B := c.B) (Wr := c.Wr) (S := mk1 c.sh i k (fun _ => true)) hx hb hC hX hS hA i hi (y := k) (by first | assumption | omega) (by omega) (WF.uS wfx (fun _ z => by cases z)) dX6_bare_29 (fun H locs hX hS => ?_)
        obtain ⟨hP, hly, hLb, wfx, ex0, ex1, ex2⟩ := id hX
        refine lv_iincN (v := 1) (lv' := [(2, .int (nI (k + 1))), (0, .ref (ad 3 i)), (1, .int (nI (c.R 1 i - mnS c i (-1))))]) hx hb dX6_bare_30 hl (k := 2) rfl (by decide) (by decide) rfl (fun ls hl => ?_)
        refine lv_goto (tgt := 14) hx hb dX6_bare_33 (by decide) ?_
        have esh : up2 (mk1 c.sh i k (fun _ => true)) i k none = mk1 c.sh i (k + 1) (fun _ => true) := mk1_t rfl
        have hX : PM E (c.R, c.I, c.B, c.Wr, mk1 c.sh i (k + 1) (fun _ => true)) th ly L ad H := by rw [← esh]; exact hX
        exact ih14 (k + 1) (by first | rfl | assumption | omega | (simp [c_20]; done) | (simp_all [c_20]; done)) (by omega) _ _ hX hS _ (lv_sub hl [1, 2, 0] rfl)
  have esh : c.sh = mk1 c.sh i 0 (fun _ => true) := mk1_0.symm
  have hX : PM E (c.R, c.I, c.B, c.Wr, mk1 c.sh i 0 (fun _ => true)) th ly L ad H0 := by rw [← esh]; exact hX
  exact lp14 (c.R 1 i - 0 + 1) 0 (by first | rfl | assumption | omega | (simp []; done) | (simp_all []; done)) (Nat.lt_succ_self _) _ _ hX hS _ (lv_sub hl [2, 1, 0] rfl)
set_option maxHeartbeats 4000000 in
set_option maxRecDepth 100000 in
theorem mX7_permit_g (l : Launch) {E : En} {c : Cy} {th : Int32} {ly : Ly} {L : List Nat} {ad : Nat → Nat → Nat} {H0 : Heap} (hX : PM E c th ly L ad H0) (i : Nat) (a b : Int32) (hi : i < c.R 10 0) (ha : isInS a (nI 0) (nI 3) = true) (hb2 : isInS b (nI (c.R 0 0)) (nI 400) = true) : MuI l yX7_permit cX7_permit 6 .int (rmk 3 0 0 64) [.ref (ad 0 0), .int (nI i), .int a, .int b] E H0 (pcS c i (nI (c.R 0 0))) (fun H1 => PM E (c.R, pmI c i a b, c.B, c.Wr, c.sh) (nI 0) ly L ad H1) (cA L H0) 0 0 := by
  obtain ⟨hP, hly, hLb, wf, eq0, eq1, eq2⟩ := id hX
  have wfx := wf
  refine ro_of (by decide) (Nat.le_of_ble_eq_true rfl) ?_
  intro p e s m below meth co ls hx hb hr hml hown hlocks hnm hC hU hl
  have hS : va_S (cA L H0) s.heap H0 [] := by rw [hU]; exact va_S.rf
  have hA : ∀ q, q ∈ L → cA L H0 q := fun q h => Or.inl h
  have hN : ∀ q, s.heap.size ≤ q → cA L H0 q := fun q h => Or.inr (by rw [← hU]; exact h)
  have hAb : ∀ q, cA L H0 q → bA E q := fun q h => h.elim (hLb q) (fun z => Nat.le_trans hC.2.2.2.1 (by rw [hU]; exact z))
  have hl : lv_has ls 6 [(0, .ref (ad 0 0)), (1, .int (nI i)), (2, .int a), (3, .int b)] := hl
  refine lv_aload_n hx hb dX7_permit_0 rfl (lv_at hl 0 rfl) ?_
  refine lv_aload_n hx hb dX7_permit_1 rfl (lv_at hl 0 rfl) ?_
  refine lv_iload_n hx hb dX7_permit_2 rfl (lv_at hl 1 rfl) ?_
  refine ro_V (As := [.int (nI i)]) (h0 := ad 0 0) (rest := [.ref (ad 0 0)]) (v := bI (!isInS (nI i) (nI 0) (nI (c.R 10 0) - nI 1))) hx hb hml hown hC hS hAb (mX7_isNoWall l hX (nI i) ) kV_X7_56 ⟨rfl, rfl⟩ ⟨Nat.le_of_ble_eq_true rfl, Nat.le_of_ble_eq_true rfl⟩ (hP.recv hC cM_0 rfl) rfl hl (Nat.le_of_ble_eq_true rfl) ⟨show _ ≤ (0 : Nat) by omega, show _ ≤ (0 : Nat) by omega⟩ dX7_permit_3 ?_
  refine lv_iconstN hx hb 1 dX7_permit_6 (by decide) ?_
  rw [(by rw [isIn_t hi (by have := wf.sw; have := wf.sh'; have := wf.sl; have := wf.nw; have := wf.nh; have := wf.nl; omega)]; rfl : (!isInS (nI i) (nI 0) (nI (c.R 10 0) - nI 1)) = false)]
  refine mu_V (As := [.int (bI false), .int (nI 1)]) (h0 := ad 0 0) (rest := []) (v := bI false) hx hb hml hown hC hS hAb (mX7_start_f l hX 1 ) (fun q h => h.elim (hA q) (fun z => hN q (Nat.le_trans hS.1 z))) kV_X7_41 ⟨rfl, rfl⟩ ⟨Nat.le_of_ble_eq_true rfl, Nat.le_of_ble_eq_true rfl⟩ (hP.recv hC cM_0 rfl) rfl hl (Nat.le_of_ble_eq_true rfl) ⟨show 0 + 0 ≤ (0 : Nat) by omega, show 0 + 0 ≤ (0 : Nat) by omega⟩ dX7_permit_7 (fun H locs hB hS9 hz hk => ?_)
  have hS := hS9
  have hX : PM E c (nI 0) ly L ad H := hB
  obtain ⟨hP, hly, hLb, wfx, ex0, ex1, ex2⟩ := id hX
  refine lv_bif_ne (tgt := 49) hx hb dX7_permit_10 (by decide) (fun c_10 => ?_) (fun c_10 => ?_)
  · skip
    exact absurd (c_10.symm.trans rfl) (by decide)
  · skip
    refine lv_aload_n hx hb dX7_permit_13 rfl (lv_at hl 0 rfl) ?_
    refine lv_iload_n hx hb dX7_permit_14 rfl (lv_at hl 2 rfl) ?_
    refine lv_iconstN hx hb 0 dX7_permit_15 (by decide) ?_
    refine lv_iconstN hx hb 3 dX7_permit_16 (by decide) ?_
    refine ro_S (As := [.int a, .int (nI 0), .int (nI 3)]) (rest := [.ref (ad 0 0)]) (v := bI (isInS a (nI 0) (nI 3))) hx hb hml hown hC hS hAb (mX7_isIn l a (nI 0) (nI 3) ) kS_X7_37 ⟨rfl, rfl⟩ ⟨Nat.le_of_ble_eq_true rfl, Nat.le_of_ble_eq_true rfl⟩ rfl hl (Nat.le_of_ble_eq_true rfl) ⟨show _ ≤ (0 : Nat) by omega, show _ ≤ (0 : Nat) by omega⟩ dX7_permit_17 ?_
    refine lv_bif_eq (tgt := 37) hx hb dX7_permit_20 (by decide) (fun c_20 => ?_) (fun c_20 => ?_)
    · skip
      exact absurd (c_20.symm.trans ha) (by decide)
    · skip
      refine lv_iload_n hx hb dX7_permit_23 rfl (lv_at hl 3 rfl) ?_
      refine lv_aload_n hx hb dX7_permit_24 rfl (lv_at hl 0 rfl) ?_
      refine pi_get hx hb hC hown hP fL_X7_60 0 0 cM_0 (v := .int (nI (c.R 0 0))) rfl dX7_permit_25 ?_
      have g_1 : c.R 0 0 ≤ 400 := wfx.nt
      refine lv_sipushN hx hb 400 dX7_permit_28 (by decide) ?_
      refine ro_S (As := [.int b, .int (nI (c.R 0 0)), .int (nI 400)]) (rest := [.ref (ad 0 0)]) (v := bI (isInS b (nI (c.R 0 0)) (nI 400))) hx hb hml hown hC hS hAb (mX7_isIn l b (nI (c.R 0 0)) (nI 400) ) kS_X7_37 ⟨rfl, rfl⟩ ⟨Nat.le_of_ble_eq_true rfl, Nat.le_of_ble_eq_true rfl⟩ rfl hl (Nat.le_of_ble_eq_true rfl) ⟨show _ ≤ (0 : Nat) by omega, show _ ≤ (0 : Nat) by omega⟩ dX7_permit_31 ?_
      refine lv_bif_ne (tgt := 41) hx hb dX7_permit_34 (by decide) (fun c_34 => ?_) (fun c_34 => ?_)
      · skip
        refine lv_iconstN hx hb 0 dX7_permit_41 (by decide) ?_
        refine lv_iconstN hx hb 2 dX7_permit_42 (by decide) ?_
        refine mu_V (As := [.int (nI 0), .int (nI 2)]) (h0 := ad 0 0) (rest := []) (v := bI false) hx hb hml hown hC hS hAb (mX7_refuse_f l hX 2 ) (fun q h => h.elim (hA q) (fun z => hN q (Nat.le_trans hS.1 z))) kV_X7_29 ⟨rfl, rfl⟩ ⟨Nat.le_of_ble_eq_true rfl, Nat.le_of_ble_eq_true rfl⟩ (hP.recv hC cM_0 rfl) rfl hl (Nat.le_of_ble_eq_true rfl) ⟨show 0 + 0 ≤ (0 : Nat) by omega, show 0 + 0 ≤ (0 : Nat) by omega⟩ dX7_permit_43 (fun H locs hB hS9 hz hk => ?_)
        have hS := hS9
        have hX : PM E c (nI 0) ly L ad H := hB
        obtain ⟨hP, hly, hLb, wfx, ex0, ex1, ex2⟩ := id hX
        refine lv_bif_eq (tgt := 51) hx hb dX7_permit_46 (by decide) (fun c_46 => ?_) (fun c_46 => ?_)
        · skip
          refine lv_aload_n hx hb dX7_permit_51 rfl (lv_at hl 0 rfl) ?_
          refine pi_get hx hb hC hown hP fL_X7_16 0 0 cM_0 (v := .ref (ad 1 0)) rfl dX7_permit_52 ?_
          refine lv_iload_n hx hb dX7_permit_55 rfl (lv_at hl 1 rfl) ?_
          refine ro_VR (As := [.int (nI i)]) (h0 := ad 1 0) (rest := []) (v := some (ad 3 i)) hx hb hml hown hC hS hAb (mJ_get l hP 0 (cM_1 (by decide)) (fun h9 => cM_2 (by decide) h9) (hly 0 (by decide)) i (show i < c.R 10 0 by first | assumption | omega | decide | (simp only [decide_eq_false_iff_not, decide_eq_true_eq] at *; omega))) kV_X7_63 ⟨rfl, rfl⟩ ⟨Nat.le_of_ble_eq_true rfl, Nat.le_of_ble_eq_true rfl⟩ (hP.recv hC (cM_1 (i := 0) (by decide)) rfl) rfl hl (Nat.le_of_ble_eq_true rfl) ⟨show _ ≤ (0 : Nat) by omega, show _ ≤ (0 : Nat) by omega⟩ dX7_permit_56 ?_
          have hg_2 : i < c.R 11 0 := by have := wf.sw; omega
          refine pi_cast (nm := "") hx hb hC hown hP 3 i (cM_3 hg_2) rfl wCl_X7_44 dX7_permit_59 ?_
          refine lv_astore (lv' := [(4, .ref (ad 3 i)), (0, .ref (ad 0 0)), (1, .int (nI i)), (2, .int a), (3, .int b)]) hx hb dX7_permit_62 hl (by decide) rfl (fun ls hl => ?_)
          refine lv_aload hx hb dX7_permit_64 (lv_at hl 0 rfl) ?_
          refine lv_aload_n hx hb dX7_permit_66 rfl (lv_at hl 1 rfl) ?_
          refine pi_get hx hb hC hown hP fL_X7_60 0 0 cM_0 (v := .int (nI (c.R 0 0))) rfl dX7_permit_67 ?_
          have g_3 : c.R 0 0 ≤ 400 := wfx.nt
          refine ro_V (As := [.int (nI (c.R 0 0))]) (h0 := ad 3 i) (rest := []) (v := pcS c i (nI (c.R 0 0))) hx hb hml hown hC hS hAb (mX6_permitted l hX i (nI (c.R 0 0)) hg_2) kV_X7_67 ⟨rfl, rfl⟩ ⟨Nat.le_of_ble_eq_true rfl, Nat.le_of_ble_eq_true rfl⟩ (hP.recv hC (cM_3 hg_2) rfl) rfl hl (Nat.le_of_ble_eq_true rfl) ⟨show _ ≤ (0 : Nat) by omega, show _ ≤ (0 : Nat) by omega⟩ dX7_permit_70 ?_
          refine lv_istore (lv' := [(5, .int (pcS c i (nI (c.R 0 0)))), (4, .ref (ad 3 i)), (0, .ref (ad 0 0)), (1, .int (nI i)), (2, .int a), (3, .int b)]) hx hb dX7_permit_73 hl (by decide) rfl (fun ls hl => ?_)
          refine lv_aload hx hb dX7_permit_75 (lv_at hl 1 rfl) ?_
          refine lv_iload_n hx hb dX7_permit_77 rfl (lv_at hl 4 rfl) ?_
          refine pwM_crew (R := c.R) (I := c.I) (B := c.B) (Wr := c.Wr) (S := c.sh) hx hb hC hown hX hS hA fP_X7_71 i hg_2 (v := a) (WF.uI wfx (by decide)) dX7_permit_78 (fun H locs hX hS => ?_)
          obtain ⟨hP, hly, hLb, wfx, ex0, ex1, ex2⟩ := id hX
          refine lv_aload hx hb dX7_permit_81 (lv_at hl 1 rfl) ?_
          refine lv_iload_n hx hb dX7_permit_83 rfl (lv_at hl 5 rfl) ?_
          refine pwM_until (R := c.R) (I := up2 c.I 4 i a) (B := c.B) (Wr := c.Wr) (S := c.sh) hx hb hC hown hX hS hA fP_X7_74 i hg_2 (v := b) (WF.uI wfx (by decide)) dX7_permit_84 (fun H locs hX hS => ?_)
          obtain ⟨hP, hly, hLb, wfx, ex0, ex1, ex2⟩ := id hX
          refine lv_iload hx hb dX7_permit_87 (lv_at hl 0 rfl) ?_
          exact mu_iret (x := pcS c i (nI (c.R 0 0))) hx hb hr hlocks hS (hX) (by first | rfl | (simp [c_10, c_20, c_34, c_46]; done) | (simp [c_10, c_20, c_34, c_46]; omega) | (simp_all [c_10, c_20, c_34, c_46]; done)) dX7_permit_89
        · skip
          exact absurd (c_46.symm.trans rfl) (by decide)
      · skip
        exact absurd (c_34.symm.trans hb2) (by decide)
set_option maxHeartbeats 4000000 in
set_option maxRecDepth 100000 in
theorem mX7_permit_b1 (l : Launch) {E : En} {c : Cy} {th : Int32} {ly : Ly} {L : List Nat} {ad : Nat → Nat → Nat} {H0 : Heap} (hX : PM E c th ly L ad H0) (v a b : Int32) (hv : isInS v (nI 0) (nI (c.R 10 0) - nI 1) = false) : MuI l yX7_permit cX7_permit 6 .int (rmk 2 0 0 44) [.ref (ad 0 0), .int v, .int a, .int b] E H0 (nI 0) (fun H1 => PM E c (nI 1) ly L ad H1) (cA L H0) 0 0 := by
  obtain ⟨hP, hly, hLb, wf, eq0, eq1, eq2⟩ := id hX
  have wfx := wf
  refine ro_of (by decide) (Nat.le_of_ble_eq_true rfl) ?_
  intro p e s m below meth co ls hx hb hr hml hown hlocks hnm hC hU hl
  have hS : va_S (cA L H0) s.heap H0 [] := by rw [hU]; exact va_S.rf
  have hA : ∀ q, q ∈ L → cA L H0 q := fun q h => Or.inl h
  have hN : ∀ q, s.heap.size ≤ q → cA L H0 q := fun q h => Or.inr (by rw [← hU]; exact h)
  have hAb : ∀ q, cA L H0 q → bA E q := fun q h => h.elim (hLb q) (fun z => Nat.le_trans hC.2.2.2.1 (by rw [hU]; exact z))
  have hl : lv_has ls 6 [(0, .ref (ad 0 0)), (1, .int v), (2, .int a), (3, .int b)] := hl
  refine lv_aload_n hx hb dX7_permit_0 rfl (lv_at hl 0 rfl) ?_
  refine lv_aload_n hx hb dX7_permit_1 rfl (lv_at hl 0 rfl) ?_
  refine lv_iload_n hx hb dX7_permit_2 rfl (lv_at hl 1 rfl) ?_
  refine ro_V (As := [.int v]) (h0 := ad 0 0) (rest := [.ref (ad 0 0)]) (v := bI (!isInS v (nI 0) (nI (c.R 10 0) - nI 1))) hx hb hml hown hC hS hAb (mX7_isNoWall l hX v ) kV_X7_56 ⟨rfl, rfl⟩ ⟨Nat.le_of_ble_eq_true rfl, Nat.le_of_ble_eq_true rfl⟩ (hP.recv hC cM_0 rfl) rfl hl (Nat.le_of_ble_eq_true rfl) ⟨show _ ≤ (0 : Nat) by omega, show _ ≤ (0 : Nat) by omega⟩ dX7_permit_3 ?_
  refine lv_iconstN hx hb 1 dX7_permit_6 (by decide) ?_
  rw [(by rw [hv]; rfl : (!isInS v (nI 0) (nI (c.R 10 0) - nI 1)) = true)]
  refine mu_V (As := [.int (bI true), .int (nI 1)]) (h0 := ad 0 0) (rest := []) (v := bI true) hx hb hml hown hC hS hAb (mX7_start_t l hX 1 (show 1 ≤ 1 by first | assumption | omega | decide | (simp only [decide_eq_false_iff_not, decide_eq_true_eq] at *; omega)) (show 1 < 10 by first | assumption | omega | decide | (simp only [decide_eq_false_iff_not, decide_eq_true_eq] at *; omega))) (fun q h => h.elim (hA q) (fun z => hN q (Nat.le_trans hS.1 z))) kV_X7_41 ⟨rfl, rfl⟩ ⟨Nat.le_of_ble_eq_true rfl, Nat.le_of_ble_eq_true rfl⟩ (hP.recv hC cM_0 rfl) rfl hl (Nat.le_of_ble_eq_true rfl) ⟨show 0 + 0 ≤ (0 : Nat) by omega, show 0 + 0 ≤ (0 : Nat) by omega⟩ dX7_permit_7 (fun H locs hB hS9 hz hk => ?_)
  have hS := hS9
  have hX : PM E c (nI 1) ly L ad H := hB
  obtain ⟨hP, hly, hLb, wfx, ex0, ex1, ex2⟩ := id hX
  refine lv_bif_ne (tgt := 49) hx hb dX7_permit_10 (by decide) (fun c_10 => ?_) (fun c_10 => ?_)
  · skip
    refine lv_iconstN hx hb 0 dX7_permit_49 (by decide) ?_
    exact mu_iret (x := nI 0) hx hb hr hlocks hS (hX) (by first | rfl | (simp [c_10]; done) | (simp [c_10]; omega) | (simp_all [c_10]; done)) dX7_permit_50
  · skip
    exact absurd (c_10.symm.trans rfl) (by decide)
set_option maxHeartbeats 4000000 in
set_option maxRecDepth 100000 in
theorem mX7_permit_b2 (l : Launch) {E : En} {c : Cy} {th : Int32} {ly : Ly} {L : List Nat} {ad : Nat → Nat → Nat} {H0 : Heap} (hX : PM E c th ly L ad H0) (i : Nat) (a b : Int32) (hi : i < c.R 10 0) (ha : (isInS a (nI 0) (nI 3) && isInS b (nI (c.R 0 0)) (nI 400)) = false) : MuI l yX7_permit cX7_permit 6 .int (rmk 2 0 0 44) [.ref (ad 0 0), .int (nI i), .int a, .int b] E H0 (nI 0) (fun H1 => PM E c (nI 2) ly L ad H1) (cA L H0) 0 0 := by
  obtain ⟨hP, hly, hLb, wf, eq0, eq1, eq2⟩ := id hX
  have wfx := wf
  refine ro_of (by decide) (Nat.le_of_ble_eq_true rfl) ?_
  intro p e s m below meth co ls hx hb hr hml hown hlocks hnm hC hU hl
  have hS : va_S (cA L H0) s.heap H0 [] := by rw [hU]; exact va_S.rf
  have hA : ∀ q, q ∈ L → cA L H0 q := fun q h => Or.inl h
  have hN : ∀ q, s.heap.size ≤ q → cA L H0 q := fun q h => Or.inr (by rw [← hU]; exact h)
  have hAb : ∀ q, cA L H0 q → bA E q := fun q h => h.elim (hLb q) (fun z => Nat.le_trans hC.2.2.2.1 (by rw [hU]; exact z))
  have hl : lv_has ls 6 [(0, .ref (ad 0 0)), (1, .int (nI i)), (2, .int a), (3, .int b)] := hl
  refine lv_aload_n hx hb dX7_permit_0 rfl (lv_at hl 0 rfl) ?_
  refine lv_aload_n hx hb dX7_permit_1 rfl (lv_at hl 0 rfl) ?_
  refine lv_iload_n hx hb dX7_permit_2 rfl (lv_at hl 1 rfl) ?_
  refine ro_V (As := [.int (nI i)]) (h0 := ad 0 0) (rest := [.ref (ad 0 0)]) (v := bI (!isInS (nI i) (nI 0) (nI (c.R 10 0) - nI 1))) hx hb hml hown hC hS hAb (mX7_isNoWall l hX (nI i) ) kV_X7_56 ⟨rfl, rfl⟩ ⟨Nat.le_of_ble_eq_true rfl, Nat.le_of_ble_eq_true rfl⟩ (hP.recv hC cM_0 rfl) rfl hl (Nat.le_of_ble_eq_true rfl) ⟨show _ ≤ (0 : Nat) by omega, show _ ≤ (0 : Nat) by omega⟩ dX7_permit_3 ?_
  refine lv_iconstN hx hb 1 dX7_permit_6 (by decide) ?_
  rw [(by rw [isIn_t hi (by have := wf.sw; have := wf.sh'; have := wf.sl; have := wf.nw; have := wf.nh; have := wf.nl; omega)]; rfl : (!isInS (nI i) (nI 0) (nI (c.R 10 0) - nI 1)) = false)]
  refine mu_V (As := [.int (bI false), .int (nI 1)]) (h0 := ad 0 0) (rest := []) (v := bI false) hx hb hml hown hC hS hAb (mX7_start_f l hX 1 ) (fun q h => h.elim (hA q) (fun z => hN q (Nat.le_trans hS.1 z))) kV_X7_41 ⟨rfl, rfl⟩ ⟨Nat.le_of_ble_eq_true rfl, Nat.le_of_ble_eq_true rfl⟩ (hP.recv hC cM_0 rfl) rfl hl (Nat.le_of_ble_eq_true rfl) ⟨show 0 + 0 ≤ (0 : Nat) by omega, show 0 + 0 ≤ (0 : Nat) by omega⟩ dX7_permit_7 (fun H locs hB hS9 hz hk => ?_)
  have hS := hS9
  have hX : PM E c (nI 0) ly L ad H := hB
  obtain ⟨hP, hly, hLb, wfx, ex0, ex1, ex2⟩ := id hX
  refine lv_bif_ne (tgt := 49) hx hb dX7_permit_10 (by decide) (fun c_10 => ?_) (fun c_10 => ?_)
  · skip
    exact absurd (c_10.symm.trans rfl) (by decide)
  · skip
    refine lv_aload_n hx hb dX7_permit_13 rfl (lv_at hl 0 rfl) ?_
    refine lv_iload_n hx hb dX7_permit_14 rfl (lv_at hl 2 rfl) ?_
    refine lv_iconstN hx hb 0 dX7_permit_15 (by decide) ?_
    refine lv_iconstN hx hb 3 dX7_permit_16 (by decide) ?_
    refine ro_S (As := [.int a, .int (nI 0), .int (nI 3)]) (rest := [.ref (ad 0 0)]) (v := bI (isInS a (nI 0) (nI 3))) hx hb hml hown hC hS hAb (mX7_isIn l a (nI 0) (nI 3) ) kS_X7_37 ⟨rfl, rfl⟩ ⟨Nat.le_of_ble_eq_true rfl, Nat.le_of_ble_eq_true rfl⟩ rfl hl (Nat.le_of_ble_eq_true rfl) ⟨show _ ≤ (0 : Nat) by omega, show _ ≤ (0 : Nat) by omega⟩ dX7_permit_17 ?_
    refine lv_bif_eq (tgt := 37) hx hb dX7_permit_20 (by decide) (fun c_20 => ?_) (fun c_20 => ?_)
    · skip
      refine lv_iconstN hx hb 1 dX7_permit_37 (by decide) ?_
      refine lv_goto (tgt := 42) hx hb dX7_permit_38 (by decide) ?_
      refine lv_iconstN hx hb 2 dX7_permit_42 (by decide) ?_
      refine mu_V (As := [.int (nI 1), .int (nI 2)]) (h0 := ad 0 0) (rest := []) (v := bI true) hx hb hml hown hC hS hAb (mX7_refuse_t l hX 2 (show 1 ≤ 2 by first | assumption | omega | decide | (simp only [decide_eq_false_iff_not, decide_eq_true_eq] at *; omega)) (show 2 < 10 by first | assumption | omega | decide | (simp only [decide_eq_false_iff_not, decide_eq_true_eq] at *; omega))) (fun q h => h.elim (hA q) (fun z => hN q (Nat.le_trans hS.1 z))) kV_X7_29 ⟨rfl, rfl⟩ ⟨Nat.le_of_ble_eq_true rfl, Nat.le_of_ble_eq_true rfl⟩ (hP.recv hC cM_0 rfl) rfl hl (Nat.le_of_ble_eq_true rfl) ⟨show 0 + 0 ≤ (0 : Nat) by omega, show 0 + 0 ≤ (0 : Nat) by omega⟩ dX7_permit_43 (fun H locs hB hS9 hz hk => ?_)
      have hS := hS9
      have hX : PM E c (nI 2) ly L ad H := hB
      obtain ⟨hP, hly, hLb, wfx, ex0, ex1, ex2⟩ := id hX
      refine lv_bif_eq (tgt := 51) hx hb dX7_permit_46 (by decide) (fun c_46 => ?_) (fun c_46 => ?_)
      · skip
        exact absurd (c_46.symm.trans rfl) (by decide)
      · skip
        refine lv_iconstN hx hb 0 dX7_permit_49 (by decide) ?_
        exact mu_iret (x := nI 0) hx hb hr hlocks hS (hX) (by first | rfl | (simp [c_10, c_20, c_46]; done) | (simp [c_10, c_20, c_46]; omega) | (simp_all [c_10, c_20, c_46]; done)) dX7_permit_50
    · skip
      refine lv_iload_n hx hb dX7_permit_23 rfl (lv_at hl 3 rfl) ?_
      refine lv_aload_n hx hb dX7_permit_24 rfl (lv_at hl 0 rfl) ?_
      refine pi_get hx hb hC hown hP fL_X7_60 0 0 cM_0 (v := .int (nI (c.R 0 0))) rfl dX7_permit_25 ?_
      have g_1 : c.R 0 0 ≤ 400 := wfx.nt
      refine lv_sipushN hx hb 400 dX7_permit_28 (by decide) ?_
      refine ro_S (As := [.int b, .int (nI (c.R 0 0)), .int (nI 400)]) (rest := [.ref (ad 0 0)]) (v := bI (isInS b (nI (c.R 0 0)) (nI 400))) hx hb hml hown hC hS hAb (mX7_isIn l b (nI (c.R 0 0)) (nI 400) ) kS_X7_37 ⟨rfl, rfl⟩ ⟨Nat.le_of_ble_eq_true rfl, Nat.le_of_ble_eq_true rfl⟩ rfl hl (Nat.le_of_ble_eq_true rfl) ⟨show _ ≤ (0 : Nat) by omega, show _ ≤ (0 : Nat) by omega⟩ dX7_permit_31 ?_
      refine lv_bif_ne (tgt := 41) hx hb dX7_permit_34 (by decide) (fun c_34 => ?_) (fun c_34 => ?_)
      · skip
        exact absurd ha (by simp [c_10, c_20, c_34])
      · skip
        refine lv_iconstN hx hb 1 dX7_permit_37 (by decide) ?_
        refine lv_goto (tgt := 42) hx hb dX7_permit_38 (by decide) ?_
        refine lv_iconstN hx hb 2 dX7_permit_42 (by decide) ?_
        refine mu_V (As := [.int (nI 1), .int (nI 2)]) (h0 := ad 0 0) (rest := []) (v := bI true) hx hb hml hown hC hS hAb (mX7_refuse_t l hX 2 (show 1 ≤ 2 by first | assumption | omega | decide | (simp only [decide_eq_false_iff_not, decide_eq_true_eq] at *; omega)) (show 2 < 10 by first | assumption | omega | decide | (simp only [decide_eq_false_iff_not, decide_eq_true_eq] at *; omega))) (fun q h => h.elim (hA q) (fun z => hN q (Nat.le_trans hS.1 z))) kV_X7_29 ⟨rfl, rfl⟩ ⟨Nat.le_of_ble_eq_true rfl, Nat.le_of_ble_eq_true rfl⟩ (hP.recv hC cM_0 rfl) rfl hl (Nat.le_of_ble_eq_true rfl) ⟨show 0 + 0 ≤ (0 : Nat) by omega, show 0 + 0 ≤ (0 : Nat) by omega⟩ dX7_permit_43 (fun H locs hB hS9 hz hk => ?_)
        have hS := hS9
        have hX : PM E c (nI 2) ly L ad H := hB
        obtain ⟨hP, hly, hLb, wfx, ex0, ex1, ex2⟩ := id hX
        refine lv_bif_eq (tgt := 51) hx hb dX7_permit_46 (by decide) (fun c_46 => ?_) (fun c_46 => ?_)
        · skip
          exact absurd (c_46.symm.trans rfl) (by decide)
        · skip
          refine lv_iconstN hx hb 0 dX7_permit_49 (by decide) ?_
          exact mu_iret (x := nI 0) hx hb hr hlocks hS (hX) (by first | rfl | (simp [c_10, c_20, c_34, c_46]; done) | (simp [c_10, c_20, c_34, c_46]; omega) | (simp_all [c_10, c_20, c_34, c_46]; done)) dX7_permit_50
set_option maxHeartbeats 4000000 in
set_option maxRecDepth 100000 in
theorem mX7_watch_g (l : Launch) {E : En} {c : Cy} {th : Int32} {ly : Ly} {L : List Nat} {ad : Nat → Nat → Nat} {H0 : Heap} (hX : PM E c th ly L ad H0) (i a b : Nat) (hi : i < c.R 10 0) (ha : isInS (nI a) (nI 0) (nI 359) = true) (hb2 : isInS (nI b) (nI a) (nI 359) = true) (ha3 : a < 360) (hb3 : b < 360) : MuI l yX7_watch cX7_watch 4 .int (rmk 3 0 0 64) [.ref (ad 0 0), .int (nI i), .int (nI a), .int (nI b)] E H0 (nI b - nI a + nI 1) (fun H1 => PM E (c.R, waI c i a b, c.B, c.Wr, c.sh) (nI 0) ly L ad H1) (cA L H0) 0 0 := by
  obtain ⟨hP, hly, hLb, wf, eq0, eq1, eq2⟩ := id hX
  have wfx := wf
  refine ro_of (by decide) (Nat.le_of_ble_eq_true rfl) ?_
  intro p e s m below meth co ls hx hb hr hml hown hlocks hnm hC hU hl
  have hS : va_S (cA L H0) s.heap H0 [] := by rw [hU]; exact va_S.rf
  have hA : ∀ q, q ∈ L → cA L H0 q := fun q h => Or.inl h
  have hN : ∀ q, s.heap.size ≤ q → cA L H0 q := fun q h => Or.inr (by rw [← hU]; exact h)
  have hAb : ∀ q, cA L H0 q → bA E q := fun q h => h.elim (hLb q) (fun z => Nat.le_trans hC.2.2.2.1 (by rw [hU]; exact z))
  have hl : lv_has ls 4 [(0, .ref (ad 0 0)), (1, .int (nI i)), (2, .int (nI a)), (3, .int (nI b))] := hl
  have hi2 : i < c.R 11 0 := by have := wf.sw; omega
  refine lv_aload_n hx hb dX7_watch_0 rfl (lv_at hl 0 rfl) ?_
  refine lv_aload_n hx hb dX7_watch_1 rfl (lv_at hl 0 rfl) ?_
  refine lv_iload_n hx hb dX7_watch_2 rfl (lv_at hl 1 rfl) ?_
  refine ro_V (As := [.int (nI i)]) (h0 := ad 0 0) (rest := [.ref (ad 0 0)]) (v := bI (!isInS (nI i) (nI 0) (nI (c.R 10 0) - nI 1))) hx hb hml hown hC hS hAb (mX7_isNoWall l hX (nI i) ) kV_X7_56 ⟨rfl, rfl⟩ ⟨Nat.le_of_ble_eq_true rfl, Nat.le_of_ble_eq_true rfl⟩ (hP.recv hC cM_0 rfl) rfl hl (Nat.le_of_ble_eq_true rfl) ⟨show _ ≤ (0 : Nat) by omega, show _ ≤ (0 : Nat) by omega⟩ dX7_watch_3 ?_
  refine lv_iconstN hx hb 1 dX7_watch_6 (by decide) ?_
  rw [(by rw [isIn_t hi (by have := wf.sw; have := wf.sh'; have := wf.sl; have := wf.nw; have := wf.nh; have := wf.nl; omega)]; rfl : (!isInS (nI i) (nI 0) (nI (c.R 10 0) - nI 1)) = false)]
  refine mu_V (As := [.int (bI false), .int (nI 1)]) (h0 := ad 0 0) (rest := []) (v := bI false) hx hb hml hown hC hS hAb (mX7_start_f l hX 1 ) (fun q h => h.elim (hA q) (fun z => hN q (Nat.le_trans hS.1 z))) kV_X7_41 ⟨rfl, rfl⟩ ⟨Nat.le_of_ble_eq_true rfl, Nat.le_of_ble_eq_true rfl⟩ (hP.recv hC cM_0 rfl) rfl hl (Nat.le_of_ble_eq_true rfl) ⟨show 0 + 0 ≤ (0 : Nat) by omega, show 0 + 0 ≤ (0 : Nat) by omega⟩ dX7_watch_7 (fun H locs hB hS9 hz hk => ?_)
  have hS := hS9
  have hX : PM E c (nI 0) ly L ad H := hB
  obtain ⟨hP, hly, hLb, wfx, ex0, ex1, ex2⟩ := id hX
  refine lv_bif_ne (tgt := 48) hx hb dX7_watch_10 (by decide) (fun c_10 => ?_) (fun c_10 => ?_)
  · skip
    exact absurd (c_10.symm.trans rfl) (by decide)
  · skip
    refine lv_aload_n hx hb dX7_watch_13 rfl (lv_at hl 0 rfl) ?_
    refine lv_iload_n hx hb dX7_watch_14 rfl (lv_at hl 2 rfl) ?_
    refine lv_iconstN hx hb 0 dX7_watch_15 (by decide) ?_
    refine lv_sipushN hx hb 359 dX7_watch_16 (by decide) ?_
    refine ro_S (As := [.int (nI a), .int (nI 0), .int (nI 359)]) (rest := [.ref (ad 0 0)]) (v := bI (isInS (nI a) (nI 0) (nI 359))) hx hb hml hown hC hS hAb (mX7_isIn l (nI a) (nI 0) (nI 359) ) kS_X7_37 ⟨rfl, rfl⟩ ⟨Nat.le_of_ble_eq_true rfl, Nat.le_of_ble_eq_true rfl⟩ rfl hl (Nat.le_of_ble_eq_true rfl) ⟨show _ ≤ (0 : Nat) by omega, show _ ≤ (0 : Nat) by omega⟩ dX7_watch_19 ?_
    refine lv_bif_eq (tgt := 36) hx hb dX7_watch_22 (by decide) (fun c_22 => ?_) (fun c_22 => ?_)
    · skip
      exact absurd (c_22.symm.trans ha) (by decide)
    · skip
      refine lv_iload_n hx hb dX7_watch_25 rfl (lv_at hl 3 rfl) ?_
      refine lv_iload_n hx hb dX7_watch_26 rfl (lv_at hl 2 rfl) ?_
      refine lv_sipushN hx hb 359 dX7_watch_27 (by decide) ?_
      refine ro_S (As := [.int (nI b), .int (nI a), .int (nI 359)]) (rest := [.ref (ad 0 0)]) (v := bI (isInS (nI b) (nI a) (nI 359))) hx hb hml hown hC hS hAb (mX7_isIn l (nI b) (nI a) (nI 359) ) kS_X7_37 ⟨rfl, rfl⟩ ⟨Nat.le_of_ble_eq_true rfl, Nat.le_of_ble_eq_true rfl⟩ rfl hl (Nat.le_of_ble_eq_true rfl) ⟨show _ ≤ (0 : Nat) by omega, show _ ≤ (0 : Nat) by omega⟩ dX7_watch_30 ?_
      refine lv_bif_ne (tgt := 40) hx hb dX7_watch_33 (by decide) (fun c_33 => ?_) (fun c_33 => ?_)
      · skip
        refine lv_iconstN hx hb 0 dX7_watch_40 (by decide) ?_
        refine lv_iconstN hx hb 2 dX7_watch_41 (by decide) ?_
        refine mu_V (As := [.int (nI 0), .int (nI 2)]) (h0 := ad 0 0) (rest := []) (v := bI false) hx hb hml hown hC hS hAb (mX7_refuse_f l hX 2 ) (fun q h => h.elim (hA q) (fun z => hN q (Nat.le_trans hS.1 z))) kV_X7_29 ⟨rfl, rfl⟩ ⟨Nat.le_of_ble_eq_true rfl, Nat.le_of_ble_eq_true rfl⟩ (hP.recv hC cM_0 rfl) rfl hl (Nat.le_of_ble_eq_true rfl) ⟨show 0 + 0 ≤ (0 : Nat) by omega, show 0 + 0 ≤ (0 : Nat) by omega⟩ dX7_watch_42 (fun H locs hB hS9 hz hk => ?_)
        have hS := hS9
        have hX : PM E c (nI 0) ly L ad H := hB
        obtain ⟨hP, hly, hLb, wfx, ex0, ex1, ex2⟩ := id hX
        refine lv_bif_eq (tgt := 50) hx hb dX7_watch_45 (by decide) (fun c_45 => ?_) (fun c_45 => ?_)
        · skip
          refine lv_aload_n hx hb dX7_watch_50 rfl (lv_at hl 0 rfl) ?_
          refine pi_get hx hb hC hown hP fL_X7_16 0 0 cM_0 (v := .ref (ad 1 0)) rfl dX7_watch_51 ?_
          refine lv_iload_n hx hb dX7_watch_54 rfl (lv_at hl 1 rfl) ?_
          refine ro_VR (As := [.int (nI i)]) (h0 := ad 1 0) (rest := []) (v := some (ad 3 i)) hx hb hml hown hC hS hAb (mJ_get l hP 0 (cM_1 (by decide)) (fun h9 => cM_2 (by decide) h9) (hly 0 (by decide)) i (show i < c.R 10 0 by first | assumption | omega | decide | (simp only [decide_eq_false_iff_not, decide_eq_true_eq] at *; omega))) kV_X7_63 ⟨rfl, rfl⟩ ⟨Nat.le_of_ble_eq_true rfl, Nat.le_of_ble_eq_true rfl⟩ (hP.recv hC (cM_1 (i := 0) (by decide)) rfl) rfl hl (Nat.le_of_ble_eq_true rfl) ⟨show _ ≤ (0 : Nat) by omega, show _ ≤ (0 : Nat) by omega⟩ dX7_watch_55 ?_
          have hg_1 : i < c.R 11 0 := by have := wf.sw; omega
          refine pi_cast (nm := "") hx hb hC hown hP 3 i (cM_3 hg_1) rfl wCl_X7_44 dX7_watch_58 ?_
          refine lv_iload_n hx hb dX7_watch_61 rfl (lv_at hl 2 rfl) ?_
          refine pi_put hx hb hC hown hP hS hA fP_X7_77 3 i (cM_3 hg_1) (v := .int (nI a)) rfl rfl (Nat.le_of_ble_eq_true rfl) dX7_watch_62 (fun H locs hP hS => ?_)
          refine lv_aload_n hx hb dX7_watch_65 rfl (lv_at hl 0 rfl) ?_
          refine pi_get hx hb hC hown hP fL_X7_16 0 0 (ctu_ne (by omega) cM_0) (v := .ref (ad 1 0)) rfl dX7_watch_66 ?_
          refine lv_iload_n hx hb dX7_watch_69 rfl (lv_at hl 1 rfl) ?_
          refine ro_VR (As := [.int (nI i)]) (h0 := ad 1 0) (rest := []) (v := some (ad 3 i)) hx hb hml hown hC hS hAb (mJ_get l hP 0 (ctu_ne (by omega) (cM_1 (by decide))) (fun h9 => ctu_ne (by omega) (cM_2 (by decide) h9)) (hly 0 (by decide)) i (show i < c.R 10 0 by first | assumption | omega | decide | (simp only [decide_eq_false_iff_not, decide_eq_true_eq] at *; omega))) kV_X7_63 ⟨rfl, rfl⟩ ⟨Nat.le_of_ble_eq_true rfl, Nat.le_of_ble_eq_true rfl⟩ (hP.recv hC (ctu_ne (by omega) (cM_1 (i := 0) (by decide))) rfl) rfl hl (Nat.le_of_ble_eq_true rfl) ⟨show _ ≤ (0 : Nat) by omega, show _ ≤ (0 : Nat) by omega⟩ dX7_watch_70 ?_
          have hg_2 : i < c.R 11 0 := by have := wf.sw; omega
          refine pi_cast (nm := "") hx hb hC hown hP 3 i (if_pos ⟨rfl, rfl⟩) rfl wCl_X7_44 dX7_watch_73 ?_
          refine lv_iload_n hx hb dX7_watch_76 rfl (lv_at hl 3 rfl) ?_
          refine pi_put hx hb hC hown hP hS hA fP_X7_80 3 i (if_pos ⟨rfl, rfl⟩) (v := .int (nI b)) rfl rfl (Nat.le_of_ble_eq_true rfl) dX7_watch_77 (fun H locs hP hS => ?_)
          have hX : PM E (c.R, waI c i a b, c.B, c.Wr, c.sh) (nI 0) ly L ad H := ⟨hP.ext (wat_ext hi2 (by omega)), hly, hLb, WF.uI7 (WF.uI6 wfx (nI_pos (by omega))) (by rw [up2_same]; exact nI_pos (by omega)), eq0, eq1, eq2⟩
          obtain ⟨hP, hly, hLb, wfx, ex0, ex1, ex2⟩ := id hX
          refine lv_iload_n hx hb dX7_watch_80 rfl (lv_at hl 3 rfl) ?_
          refine lv_iload_n hx hb dX7_watch_81 rfl (lv_at hl 2 rfl) ?_
          refine lv_isub hx hb dX7_watch_82 ?_
          refine lv_iconstN hx hb 1 dX7_watch_83 (by decide) ?_
          refine lv_iadd hx hb dX7_watch_84 ?_
          exact mu_iret (x := ((nI b) - (nI a)) + (nI 1)) hx hb hr hlocks hS (hX) (by first | rfl | (simp [c_10, c_22, c_33, c_45]; done) | (simp [c_10, c_22, c_33, c_45]; omega) | (simp_all [c_10, c_22, c_33, c_45]; done)) dX7_watch_85
        · skip
          exact absurd (c_45.symm.trans rfl) (by decide)
      · skip
        exact absurd (c_33.symm.trans hb2) (by decide)
set_option maxHeartbeats 4000000 in
set_option maxRecDepth 100000 in
theorem mX7_watch_b1 (l : Launch) {E : En} {c : Cy} {th : Int32} {ly : Ly} {L : List Nat} {ad : Nat → Nat → Nat} {H0 : Heap} (hX : PM E c th ly L ad H0) (v a b : Int32) (hv : isInS v (nI 0) (nI (c.R 10 0) - nI 1) = false) : MuI l yX7_watch cX7_watch 4 .int (rmk 2 0 0 44) [.ref (ad 0 0), .int v, .int a, .int b] E H0 (nI 0) (fun H1 => PM E c (nI 1) ly L ad H1) (cA L H0) 0 0 := by
  obtain ⟨hP, hly, hLb, wf, eq0, eq1, eq2⟩ := id hX
  have wfx := wf
  refine ro_of (by decide) (Nat.le_of_ble_eq_true rfl) ?_
  intro p e s m below meth co ls hx hb hr hml hown hlocks hnm hC hU hl
  have hS : va_S (cA L H0) s.heap H0 [] := by rw [hU]; exact va_S.rf
  have hA : ∀ q, q ∈ L → cA L H0 q := fun q h => Or.inl h
  have hN : ∀ q, s.heap.size ≤ q → cA L H0 q := fun q h => Or.inr (by rw [← hU]; exact h)
  have hAb : ∀ q, cA L H0 q → bA E q := fun q h => h.elim (hLb q) (fun z => Nat.le_trans hC.2.2.2.1 (by rw [hU]; exact z))
  have hl : lv_has ls 4 [(0, .ref (ad 0 0)), (1, .int v), (2, .int a), (3, .int b)] := hl
  refine lv_aload_n hx hb dX7_watch_0 rfl (lv_at hl 0 rfl) ?_
  refine lv_aload_n hx hb dX7_watch_1 rfl (lv_at hl 0 rfl) ?_
  refine lv_iload_n hx hb dX7_watch_2 rfl (lv_at hl 1 rfl) ?_
  refine ro_V (As := [.int v]) (h0 := ad 0 0) (rest := [.ref (ad 0 0)]) (v := bI (!isInS v (nI 0) (nI (c.R 10 0) - nI 1))) hx hb hml hown hC hS hAb (mX7_isNoWall l hX v ) kV_X7_56 ⟨rfl, rfl⟩ ⟨Nat.le_of_ble_eq_true rfl, Nat.le_of_ble_eq_true rfl⟩ (hP.recv hC cM_0 rfl) rfl hl (Nat.le_of_ble_eq_true rfl) ⟨show _ ≤ (0 : Nat) by omega, show _ ≤ (0 : Nat) by omega⟩ dX7_watch_3 ?_
  refine lv_iconstN hx hb 1 dX7_watch_6 (by decide) ?_
  rw [(by rw [hv]; rfl : (!isInS v (nI 0) (nI (c.R 10 0) - nI 1)) = true)]
  refine mu_V (As := [.int (bI true), .int (nI 1)]) (h0 := ad 0 0) (rest := []) (v := bI true) hx hb hml hown hC hS hAb (mX7_start_t l hX 1 (show 1 ≤ 1 by first | assumption | omega | decide | (simp only [decide_eq_false_iff_not, decide_eq_true_eq] at *; omega)) (show 1 < 10 by first | assumption | omega | decide | (simp only [decide_eq_false_iff_not, decide_eq_true_eq] at *; omega))) (fun q h => h.elim (hA q) (fun z => hN q (Nat.le_trans hS.1 z))) kV_X7_41 ⟨rfl, rfl⟩ ⟨Nat.le_of_ble_eq_true rfl, Nat.le_of_ble_eq_true rfl⟩ (hP.recv hC cM_0 rfl) rfl hl (Nat.le_of_ble_eq_true rfl) ⟨show 0 + 0 ≤ (0 : Nat) by omega, show 0 + 0 ≤ (0 : Nat) by omega⟩ dX7_watch_7 (fun H locs hB hS9 hz hk => ?_)
  have hS := hS9
  have hX : PM E c (nI 1) ly L ad H := hB
  obtain ⟨hP, hly, hLb, wfx, ex0, ex1, ex2⟩ := id hX
  refine lv_bif_ne (tgt := 48) hx hb dX7_watch_10 (by decide) (fun c_10 => ?_) (fun c_10 => ?_)
  · skip
    refine lv_iconstN hx hb 0 dX7_watch_48 (by decide) ?_
    exact mu_iret (x := nI 0) hx hb hr hlocks hS (hX) (by first | rfl | (simp [c_10]; done) | (simp [c_10]; omega) | (simp_all [c_10]; done)) dX7_watch_49
  · skip
    exact absurd (c_10.symm.trans rfl) (by decide)
set_option maxHeartbeats 4000000 in
set_option maxRecDepth 100000 in
theorem mX7_watch_b2 (l : Launch) {E : En} {c : Cy} {th : Int32} {ly : Ly} {L : List Nat} {ad : Nat → Nat → Nat} {H0 : Heap} (hX : PM E c th ly L ad H0) (i : Nat) (a b : Int32) (hi : i < c.R 10 0) (ha : (isInS a (nI 0) (nI 359) && isInS b a (nI 359)) = false) : MuI l yX7_watch cX7_watch 4 .int (rmk 2 0 0 44) [.ref (ad 0 0), .int (nI i), .int a, .int b] E H0 (nI 0) (fun H1 => PM E c (nI 2) ly L ad H1) (cA L H0) 0 0 := by
  obtain ⟨hP, hly, hLb, wf, eq0, eq1, eq2⟩ := id hX
  have wfx := wf
  refine ro_of (by decide) (Nat.le_of_ble_eq_true rfl) ?_
  intro p e s m below meth co ls hx hb hr hml hown hlocks hnm hC hU hl
  have hS : va_S (cA L H0) s.heap H0 [] := by rw [hU]; exact va_S.rf
  have hA : ∀ q, q ∈ L → cA L H0 q := fun q h => Or.inl h
  have hN : ∀ q, s.heap.size ≤ q → cA L H0 q := fun q h => Or.inr (by rw [← hU]; exact h)
  have hAb : ∀ q, cA L H0 q → bA E q := fun q h => h.elim (hLb q) (fun z => Nat.le_trans hC.2.2.2.1 (by rw [hU]; exact z))
  have hl : lv_has ls 4 [(0, .ref (ad 0 0)), (1, .int (nI i)), (2, .int a), (3, .int b)] := hl
  refine lv_aload_n hx hb dX7_watch_0 rfl (lv_at hl 0 rfl) ?_
  refine lv_aload_n hx hb dX7_watch_1 rfl (lv_at hl 0 rfl) ?_
  refine lv_iload_n hx hb dX7_watch_2 rfl (lv_at hl 1 rfl) ?_
  refine ro_V (As := [.int (nI i)]) (h0 := ad 0 0) (rest := [.ref (ad 0 0)]) (v := bI (!isInS (nI i) (nI 0) (nI (c.R 10 0) - nI 1))) hx hb hml hown hC hS hAb (mX7_isNoWall l hX (nI i) ) kV_X7_56 ⟨rfl, rfl⟩ ⟨Nat.le_of_ble_eq_true rfl, Nat.le_of_ble_eq_true rfl⟩ (hP.recv hC cM_0 rfl) rfl hl (Nat.le_of_ble_eq_true rfl) ⟨show _ ≤ (0 : Nat) by omega, show _ ≤ (0 : Nat) by omega⟩ dX7_watch_3 ?_
  refine lv_iconstN hx hb 1 dX7_watch_6 (by decide) ?_
  rw [(by rw [isIn_t hi (by have := wf.sw; have := wf.sh'; have := wf.sl; have := wf.nw; have := wf.nh; have := wf.nl; omega)]; rfl : (!isInS (nI i) (nI 0) (nI (c.R 10 0) - nI 1)) = false)]
  refine mu_V (As := [.int (bI false), .int (nI 1)]) (h0 := ad 0 0) (rest := []) (v := bI false) hx hb hml hown hC hS hAb (mX7_start_f l hX 1 ) (fun q h => h.elim (hA q) (fun z => hN q (Nat.le_trans hS.1 z))) kV_X7_41 ⟨rfl, rfl⟩ ⟨Nat.le_of_ble_eq_true rfl, Nat.le_of_ble_eq_true rfl⟩ (hP.recv hC cM_0 rfl) rfl hl (Nat.le_of_ble_eq_true rfl) ⟨show 0 + 0 ≤ (0 : Nat) by omega, show 0 + 0 ≤ (0 : Nat) by omega⟩ dX7_watch_7 (fun H locs hB hS9 hz hk => ?_)
  have hS := hS9
  have hX : PM E c (nI 0) ly L ad H := hB
  obtain ⟨hP, hly, hLb, wfx, ex0, ex1, ex2⟩ := id hX
  refine lv_bif_ne (tgt := 48) hx hb dX7_watch_10 (by decide) (fun c_10 => ?_) (fun c_10 => ?_)
  · skip
    exact absurd (c_10.symm.trans rfl) (by decide)
  · skip
    refine lv_aload_n hx hb dX7_watch_13 rfl (lv_at hl 0 rfl) ?_
    refine lv_iload_n hx hb dX7_watch_14 rfl (lv_at hl 2 rfl) ?_
    refine lv_iconstN hx hb 0 dX7_watch_15 (by decide) ?_
    refine lv_sipushN hx hb 359 dX7_watch_16 (by decide) ?_
    refine ro_S (As := [.int a, .int (nI 0), .int (nI 359)]) (rest := [.ref (ad 0 0)]) (v := bI (isInS a (nI 0) (nI 359))) hx hb hml hown hC hS hAb (mX7_isIn l a (nI 0) (nI 359) ) kS_X7_37 ⟨rfl, rfl⟩ ⟨Nat.le_of_ble_eq_true rfl, Nat.le_of_ble_eq_true rfl⟩ rfl hl (Nat.le_of_ble_eq_true rfl) ⟨show _ ≤ (0 : Nat) by omega, show _ ≤ (0 : Nat) by omega⟩ dX7_watch_19 ?_
    refine lv_bif_eq (tgt := 36) hx hb dX7_watch_22 (by decide) (fun c_22 => ?_) (fun c_22 => ?_)
    · skip
      refine lv_iconstN hx hb 1 dX7_watch_36 (by decide) ?_
      refine lv_goto (tgt := 41) hx hb dX7_watch_37 (by decide) ?_
      refine lv_iconstN hx hb 2 dX7_watch_41 (by decide) ?_
      refine mu_V (As := [.int (nI 1), .int (nI 2)]) (h0 := ad 0 0) (rest := []) (v := bI true) hx hb hml hown hC hS hAb (mX7_refuse_t l hX 2 (show 1 ≤ 2 by first | assumption | omega | decide | (simp only [decide_eq_false_iff_not, decide_eq_true_eq] at *; omega)) (show 2 < 10 by first | assumption | omega | decide | (simp only [decide_eq_false_iff_not, decide_eq_true_eq] at *; omega))) (fun q h => h.elim (hA q) (fun z => hN q (Nat.le_trans hS.1 z))) kV_X7_29 ⟨rfl, rfl⟩ ⟨Nat.le_of_ble_eq_true rfl, Nat.le_of_ble_eq_true rfl⟩ (hP.recv hC cM_0 rfl) rfl hl (Nat.le_of_ble_eq_true rfl) ⟨show 0 + 0 ≤ (0 : Nat) by omega, show 0 + 0 ≤ (0 : Nat) by omega⟩ dX7_watch_42 (fun H locs hB hS9 hz hk => ?_)
      have hS := hS9
      have hX : PM E c (nI 2) ly L ad H := hB
      obtain ⟨hP, hly, hLb, wfx, ex0, ex1, ex2⟩ := id hX
      refine lv_bif_eq (tgt := 50) hx hb dX7_watch_45 (by decide) (fun c_45 => ?_) (fun c_45 => ?_)
      · skip
        exact absurd (c_45.symm.trans rfl) (by decide)
      · skip
        refine lv_iconstN hx hb 0 dX7_watch_48 (by decide) ?_
        exact mu_iret (x := nI 0) hx hb hr hlocks hS (hX) (by first | rfl | (simp [c_10, c_22, c_45]; done) | (simp [c_10, c_22, c_45]; omega) | (simp_all [c_10, c_22, c_45]; done)) dX7_watch_49
    · skip
      refine lv_iload_n hx hb dX7_watch_25 rfl (lv_at hl 3 rfl) ?_
      refine lv_iload_n hx hb dX7_watch_26 rfl (lv_at hl 2 rfl) ?_
      refine lv_sipushN hx hb 359 dX7_watch_27 (by decide) ?_
      refine ro_S (As := [.int b, .int a, .int (nI 359)]) (rest := [.ref (ad 0 0)]) (v := bI (isInS b a (nI 359))) hx hb hml hown hC hS hAb (mX7_isIn l b a (nI 359) ) kS_X7_37 ⟨rfl, rfl⟩ ⟨Nat.le_of_ble_eq_true rfl, Nat.le_of_ble_eq_true rfl⟩ rfl hl (Nat.le_of_ble_eq_true rfl) ⟨show _ ≤ (0 : Nat) by omega, show _ ≤ (0 : Nat) by omega⟩ dX7_watch_30 ?_
      refine lv_bif_ne (tgt := 40) hx hb dX7_watch_33 (by decide) (fun c_33 => ?_) (fun c_33 => ?_)
      · skip
        exact absurd ha (by simp [c_10, c_22, c_33])
      · skip
        refine lv_iconstN hx hb 1 dX7_watch_36 (by decide) ?_
        refine lv_goto (tgt := 41) hx hb dX7_watch_37 (by decide) ?_
        refine lv_iconstN hx hb 2 dX7_watch_41 (by decide) ?_
        refine mu_V (As := [.int (nI 1), .int (nI 2)]) (h0 := ad 0 0) (rest := []) (v := bI true) hx hb hml hown hC hS hAb (mX7_refuse_t l hX 2 (show 1 ≤ 2 by first | assumption | omega | decide | (simp only [decide_eq_false_iff_not, decide_eq_true_eq] at *; omega)) (show 2 < 10 by first | assumption | omega | decide | (simp only [decide_eq_false_iff_not, decide_eq_true_eq] at *; omega))) (fun q h => h.elim (hA q) (fun z => hN q (Nat.le_trans hS.1 z))) kV_X7_29 ⟨rfl, rfl⟩ ⟨Nat.le_of_ble_eq_true rfl, Nat.le_of_ble_eq_true rfl⟩ (hP.recv hC cM_0 rfl) rfl hl (Nat.le_of_ble_eq_true rfl) ⟨show 0 + 0 ≤ (0 : Nat) by omega, show 0 + 0 ≤ (0 : Nat) by omega⟩ dX7_watch_42 (fun H locs hB hS9 hz hk => ?_)
        have hS := hS9
        have hX : PM E c (nI 2) ly L ad H := hB
        obtain ⟨hP, hly, hLb, wfx, ex0, ex1, ex2⟩ := id hX
        refine lv_bif_eq (tgt := 50) hx hb dX7_watch_45 (by decide) (fun c_45 => ?_) (fun c_45 => ?_)
        · skip
          exact absurd (c_45.symm.trans rfl) (by decide)
        · skip
          refine lv_iconstN hx hb 0 dX7_watch_48 (by decide) ?_
          exact mu_iret (x := nI 0) hx hb hr hlocks hS (hX) (by first | rfl | (simp [c_10, c_22, c_33, c_45]; done) | (simp [c_10, c_22, c_33, c_45]; omega) | (simp_all [c_10, c_22, c_33, c_45]; done)) dX7_watch_49
set_option maxHeartbeats 4000000 in
set_option maxRecDepth 100000 in
theorem mX7_pay_g (l : Launch) {E : En} {c : Cy} {th : Int32} {ly : Ly} {L : List Nat} {ad : Nat → Nat → Nat} {H0 : Heap} (hX : PM E c th ly L ad H0) (h : Nat) (hh : h < c.R 10 1) : MuI l yX7_pay cX7_pay 3 .int (rmk 3 0 0 64) [.ref (ad 0 0), .int (nI h)] E H0 (c.I 11 h) (fun H1 => PM E (c.R, up2 c.I 11 h (nI 0), c.B, c.Wr, c.sh) (nI 0) ly L ad H1) (cA L H0) 0 0 := by
  obtain ⟨hP, hly, hLb, wf, eq0, eq1, eq2⟩ := id hX
  have wfx := wf
  refine ro_of (by decide) (Nat.le_of_ble_eq_true rfl) ?_
  intro p e s m below meth co ls hx hb hr hml hown hlocks hnm hC hU hl
  have hS : va_S (cA L H0) s.heap H0 [] := by rw [hU]; exact va_S.rf
  have hA : ∀ q, q ∈ L → cA L H0 q := fun q h => Or.inl h
  have hN : ∀ q, s.heap.size ≤ q → cA L H0 q := fun q h => Or.inr (by rw [← hU]; exact h)
  have hAb : ∀ q, cA L H0 q → bA E q := fun q h => h.elim (hLb q) (fun z => Nat.le_trans hC.2.2.2.1 (by rw [hU]; exact z))
  have hl : lv_has ls 3 [(0, .ref (ad 0 0)), (1, .int (nI h))] := hl
  refine lv_aload_n hx hb dX7_pay_0 rfl (lv_at hl 0 rfl) ?_
  refine lv_aload_n hx hb dX7_pay_1 rfl (lv_at hl 0 rfl) ?_
  refine lv_iload_n hx hb dX7_pay_2 rfl (lv_at hl 1 rfl) ?_
  refine ro_V (As := [.int (nI h)]) (h0 := ad 0 0) (rest := [.ref (ad 0 0)]) (v := bI (!isInS (nI h) (nI 0) (nI (c.R 10 1) - nI 1))) hx hb hml hown hC hS hAb (mX7_isNoHand l hX (nI h) ) kV_X7_113 ⟨rfl, rfl⟩ ⟨Nat.le_of_ble_eq_true rfl, Nat.le_of_ble_eq_true rfl⟩ (hP.recv hC cM_0 rfl) rfl hl (Nat.le_of_ble_eq_true rfl) ⟨show _ ≤ (0 : Nat) by omega, show _ ≤ (0 : Nat) by omega⟩ dX7_pay_3 ?_
  refine lv_iconstN hx hb 1 dX7_pay_6 (by decide) ?_
  rw [(by rw [isIn_t hh (by have := wf.sw; have := wf.sh'; have := wf.sl; have := wf.nw; have := wf.nh; have := wf.nl; omega)]; rfl : (!isInS (nI h) (nI 0) (nI (c.R 10 1) - nI 1)) = false)]
  refine mu_V (As := [.int (bI false), .int (nI 1)]) (h0 := ad 0 0) (rest := []) (v := bI false) hx hb hml hown hC hS hAb (mX7_start_f l hX 1 ) (fun q h => h.elim (hA q) (fun z => hN q (Nat.le_trans hS.1 z))) kV_X7_41 ⟨rfl, rfl⟩ ⟨Nat.le_of_ble_eq_true rfl, Nat.le_of_ble_eq_true rfl⟩ (hP.recv hC cM_0 rfl) rfl hl (Nat.le_of_ble_eq_true rfl) ⟨show 0 + 0 ≤ (0 : Nat) by omega, show 0 + 0 ≤ (0 : Nat) by omega⟩ dX7_pay_7 (fun H locs hB hS9 hz hk => ?_)
  have hS := hS9
  have hX : PM E c (nI 0) ly L ad H := hB
  obtain ⟨hP, hly, hLb, wfx, ex0, ex1, ex2⟩ := id hX
  refine lv_bif_eq (tgt := 15) hx hb dX7_pay_10 (by decide) (fun c_10 => ?_) (fun c_10 => ?_)
  · skip
    refine lv_aload_n hx hb dX7_pay_15 rfl (lv_at hl 0 rfl) ?_
    refine pi_get hx hb hC hown hP fL_X7_20 0 0 cM_0 (v := .ref (ad 1 1)) rfl dX7_pay_16 ?_
    refine lv_iload_n hx hb dX7_pay_19 rfl (lv_at hl 1 rfl) ?_
    refine ro_VR (As := [.int (nI h)]) (h0 := ad 1 1) (rest := []) (v := some (ad 5 h)) hx hb hml hown hC hS hAb (mJ_get l hP 1 (cM_1 (by decide)) (fun h9 => cM_2 (by decide) h9) (hly 1 (by decide)) h (show h < c.R 10 1 by first | assumption | omega | decide | (simp only [decide_eq_false_iff_not, decide_eq_true_eq] at *; omega))) kV_X7_63 ⟨rfl, rfl⟩ ⟨Nat.le_of_ble_eq_true rfl, Nat.le_of_ble_eq_true rfl⟩ (hP.recv hC (cM_1 (i := 1) (by decide)) rfl) rfl hl (Nat.le_of_ble_eq_true rfl) ⟨show _ ≤ (0 : Nat) by omega, show _ ≤ (0 : Nat) by omega⟩ dX7_pay_20 ?_
    have hg_1 : h < c.R 11 1 := by have := wf.sh'; omega
    refine pi_cast (nm := "") hx hb hC hown hP 5 h (cM_5 hg_1) rfl wCl_X7_53 dX7_pay_23 ?_
    refine pi_get hx hb hC hown hP fL_X7_148 5 h (cM_5 hg_1) (v := .int (c.I 11 h)) rfl dX7_pay_26 ?_
    refine lv_istore_n (lv' := [(2, .int (c.I 11 h)), (0, .ref (ad 0 0)), (1, .int (nI h))]) hx hb dX7_pay_29 rfl hl (by decide) rfl (fun ls hl => ?_)
    refine lv_aload_n hx hb dX7_pay_30 rfl (lv_at hl 1 rfl) ?_
    refine pi_get hx hb hC hown hP fL_X7_20 0 0 cM_0 (v := .ref (ad 1 1)) rfl dX7_pay_31 ?_
    refine lv_iload_n hx hb dX7_pay_34 rfl (lv_at hl 2 rfl) ?_
    refine ro_VR (As := [.int (nI h)]) (h0 := ad 1 1) (rest := []) (v := some (ad 5 h)) hx hb hml hown hC hS hAb (mJ_get l hP 1 (cM_1 (by decide)) (fun h9 => cM_2 (by decide) h9) (hly 1 (by decide)) h (show h < c.R 10 1 by first | assumption | omega | decide | (simp only [decide_eq_false_iff_not, decide_eq_true_eq] at *; omega))) kV_X7_63 ⟨rfl, rfl⟩ ⟨Nat.le_of_ble_eq_true rfl, Nat.le_of_ble_eq_true rfl⟩ (hP.recv hC (cM_1 (i := 1) (by decide)) rfl) rfl hl (Nat.le_of_ble_eq_true rfl) ⟨show _ ≤ (0 : Nat) by omega, show _ ≤ (0 : Nat) by omega⟩ dX7_pay_35 ?_
    have hg_2 : h < c.R 11 1 := by have := wf.sh'; omega
    refine pi_cast (nm := "") hx hb hC hown hP 5 h (cM_5 hg_2) rfl wCl_X7_53 dX7_pay_38 ?_
    refine lv_iconstN hx hb 0 dX7_pay_41 (by decide) ?_
    refine pwM_fines (R := c.R) (I := c.I) (B := c.B) (Wr := c.Wr) (S := c.sh) hx hb hC hown hX hS hA fP_X7_148 h hg_2 (v := nI 0) (WF.uI wfx (by decide)) dX7_pay_42 (fun H locs hX hS => ?_)
    obtain ⟨hP, hly, hLb, wfx, ex0, ex1, ex2⟩ := id hX
    refine lv_iload_n hx hb dX7_pay_45 rfl (lv_at hl 0 rfl) ?_
    exact mu_iret (x := c.I 11 h) hx hb hr hlocks hS (hX) (by first | rfl | (simp [c_10]; done) | (simp [c_10]; omega) | (simp_all [c_10]; done)) dX7_pay_46
  · skip
    exact absurd (c_10.symm.trans rfl) (by decide)
set_option maxHeartbeats 4000000 in
set_option maxRecDepth 100000 in
theorem mX7_pay_b1 (l : Launch) {E : En} {c : Cy} {th : Int32} {ly : Ly} {L : List Nat} {ad : Nat → Nat → Nat} {H0 : Heap} (hX : PM E c th ly L ad H0) (v : Int32) (hv : isInS v (nI 0) (nI (c.R 10 1) - nI 1) = false) : MuI l yX7_pay cX7_pay 3 .int (rmk 2 0 0 44) [.ref (ad 0 0), .int v] E H0 (nI 0) (fun H1 => PM E c (nI 1) ly L ad H1) (cA L H0) 0 0 := by
  obtain ⟨hP, hly, hLb, wf, eq0, eq1, eq2⟩ := id hX
  have wfx := wf
  refine ro_of (by decide) (Nat.le_of_ble_eq_true rfl) ?_
  intro p e s m below meth co ls hx hb hr hml hown hlocks hnm hC hU hl
  have hS : va_S (cA L H0) s.heap H0 [] := by rw [hU]; exact va_S.rf
  have hA : ∀ q, q ∈ L → cA L H0 q := fun q h => Or.inl h
  have hN : ∀ q, s.heap.size ≤ q → cA L H0 q := fun q h => Or.inr (by rw [← hU]; exact h)
  have hAb : ∀ q, cA L H0 q → bA E q := fun q h => h.elim (hLb q) (fun z => Nat.le_trans hC.2.2.2.1 (by rw [hU]; exact z))
  have hl : lv_has ls 3 [(0, .ref (ad 0 0)), (1, .int v)] := hl
  refine lv_aload_n hx hb dX7_pay_0 rfl (lv_at hl 0 rfl) ?_
  refine lv_aload_n hx hb dX7_pay_1 rfl (lv_at hl 0 rfl) ?_
  refine lv_iload_n hx hb dX7_pay_2 rfl (lv_at hl 1 rfl) ?_
  refine ro_V (As := [.int v]) (h0 := ad 0 0) (rest := [.ref (ad 0 0)]) (v := bI (!isInS v (nI 0) (nI (c.R 10 1) - nI 1))) hx hb hml hown hC hS hAb (mX7_isNoHand l hX v ) kV_X7_113 ⟨rfl, rfl⟩ ⟨Nat.le_of_ble_eq_true rfl, Nat.le_of_ble_eq_true rfl⟩ (hP.recv hC cM_0 rfl) rfl hl (Nat.le_of_ble_eq_true rfl) ⟨show _ ≤ (0 : Nat) by omega, show _ ≤ (0 : Nat) by omega⟩ dX7_pay_3 ?_
  refine lv_iconstN hx hb 1 dX7_pay_6 (by decide) ?_
  rw [(by rw [hv]; rfl : (!isInS v (nI 0) (nI (c.R 10 1) - nI 1)) = true)]
  refine mu_V (As := [.int (bI true), .int (nI 1)]) (h0 := ad 0 0) (rest := []) (v := bI true) hx hb hml hown hC hS hAb (mX7_start_t l hX 1 (show 1 ≤ 1 by first | assumption | omega | decide | (simp only [decide_eq_false_iff_not, decide_eq_true_eq] at *; omega)) (show 1 < 10 by first | assumption | omega | decide | (simp only [decide_eq_false_iff_not, decide_eq_true_eq] at *; omega))) (fun q h => h.elim (hA q) (fun z => hN q (Nat.le_trans hS.1 z))) kV_X7_41 ⟨rfl, rfl⟩ ⟨Nat.le_of_ble_eq_true rfl, Nat.le_of_ble_eq_true rfl⟩ (hP.recv hC cM_0 rfl) rfl hl (Nat.le_of_ble_eq_true rfl) ⟨show 0 + 0 ≤ (0 : Nat) by omega, show 0 + 0 ≤ (0 : Nat) by omega⟩ dX7_pay_7 (fun H locs hB hS9 hz hk => ?_)
  have hS := hS9
  have hX : PM E c (nI 1) ly L ad H := hB
  obtain ⟨hP, hly, hLb, wfx, ex0, ex1, ex2⟩ := id hX
  refine lv_bif_eq (tgt := 15) hx hb dX7_pay_10 (by decide) (fun c_10 => ?_) (fun c_10 => ?_)
  · skip
    exact absurd (c_10.symm.trans rfl) (by decide)
  · skip
    refine lv_iconstN hx hb 0 dX7_pay_13 (by decide) ?_
    exact mu_iret (x := nI 0) hx hb hr hlocks hS (hX) (by first | rfl | (simp [c_10]; done) | (simp [c_10]; omega) | (simp_all [c_10]; done)) dX7_pay_14
set_option maxHeartbeats 4000000 in
set_option maxRecDepth 100000 in
theorem mX7_waive_g (l : Launch) {E : En} {c : Cy} {th : Int32} {ly : Ly} {L : List Nat} {ad : Nat → Nat → Nat} {H0 : Heap} (hX : PM E c th ly L ad H0) (j : Nat) (hj : j < c.R 10 2) : MuI l yX7_waive cX7_waive 3 .boolean (rmk 3 0 0 64) [.ref (ad 0 0), .int (nI j)] E H0 (bI (!c.B 2 j)) (fun H1 => PM E (c.R, c.I, up2 c.B 2 j true, c.Wr, c.sh) (nI 0) ly L ad H1) (cA L H0) 0 0 := by
  obtain ⟨hP, hly, hLb, wf, eq0, eq1, eq2⟩ := id hX
  have wfx := wf
  refine ro_of (by decide) (Nat.le_of_ble_eq_true rfl) ?_
  intro p e s m below meth co ls hx hb hr hml hown hlocks hnm hC hU hl
  have hS : va_S (cA L H0) s.heap H0 [] := by rw [hU]; exact va_S.rf
  have hA : ∀ q, q ∈ L → cA L H0 q := fun q h => Or.inl h
  have hN : ∀ q, s.heap.size ≤ q → cA L H0 q := fun q h => Or.inr (by rw [← hU]; exact h)
  have hAb : ∀ q, cA L H0 q → bA E q := fun q h => h.elim (hLb q) (fun z => Nat.le_trans hC.2.2.2.1 (by rw [hU]; exact z))
  have hl : lv_has ls 3 [(0, .ref (ad 0 0)), (1, .int (nI j))] := hl
  refine lv_aload_n hx hb dX7_waive_0 rfl (lv_at hl 0 rfl) ?_
  refine lv_aload_n hx hb dX7_waive_1 rfl (lv_at hl 0 rfl) ?_
  refine lv_iload_n hx hb dX7_waive_2 rfl (lv_at hl 1 rfl) ?_
  refine ro_V (As := [.int (nI j)]) (h0 := ad 0 0) (rest := [.ref (ad 0 0)]) (v := bI (!isInS (nI j) (nI 0) (nI (c.R 10 2) - nI 1))) hx hb hml hown hC hS hAb (mX7_isNoLayer l hX (nI j) ) kV_X7_203 ⟨rfl, rfl⟩ ⟨Nat.le_of_ble_eq_true rfl, Nat.le_of_ble_eq_true rfl⟩ (hP.recv hC cM_0 rfl) rfl hl (Nat.le_of_ble_eq_true rfl) ⟨show _ ≤ (0 : Nat) by omega, show _ ≤ (0 : Nat) by omega⟩ dX7_waive_3 ?_
  refine lv_iconstN hx hb 1 dX7_waive_6 (by decide) ?_
  rw [(by rw [isIn_t hj (by have := wf.sw; have := wf.sh'; have := wf.sl; have := wf.nw; have := wf.nh; have := wf.nl; omega)]; rfl : (!isInS (nI j) (nI 0) (nI (c.R 10 2) - nI 1)) = false)]
  refine mu_V (As := [.int (bI false), .int (nI 1)]) (h0 := ad 0 0) (rest := []) (v := bI false) hx hb hml hown hC hS hAb (mX7_start_f l hX 1 ) (fun q h => h.elim (hA q) (fun z => hN q (Nat.le_trans hS.1 z))) kV_X7_41 ⟨rfl, rfl⟩ ⟨Nat.le_of_ble_eq_true rfl, Nat.le_of_ble_eq_true rfl⟩ (hP.recv hC cM_0 rfl) rfl hl (Nat.le_of_ble_eq_true rfl) ⟨show 0 + 0 ≤ (0 : Nat) by omega, show 0 + 0 ≤ (0 : Nat) by omega⟩ dX7_waive_7 (fun H locs hB hS9 hz hk => ?_)
  have hS := hS9
  have hX : PM E c (nI 0) ly L ad H := hB
  obtain ⟨hP, hly, hLb, wfx, ex0, ex1, ex2⟩ := id hX
  refine lv_bif_eq (tgt := 15) hx hb dX7_waive_10 (by decide) (fun c_10 => ?_) (fun c_10 => ?_)
  · skip
    refine lv_aload_n hx hb dX7_waive_15 rfl (lv_at hl 0 rfl) ?_
    refine pi_get hx hb hC hown hP fL_X7_23 0 0 cM_0 (v := .ref (ad 1 2)) rfl dX7_waive_16 ?_
    refine lv_iload_n hx hb dX7_waive_19 rfl (lv_at hl 1 rfl) ?_
    refine ro_VR (As := [.int (nI j)]) (h0 := ad 1 2) (rest := []) (v := some (ad 7 j)) hx hb hml hown hC hS hAb (mJ_get l hP 2 (cM_1 (by decide)) (fun h9 => cM_2 (by decide) h9) (hly 2 (by decide)) j (show j < c.R 10 2 by first | assumption | omega | decide | (simp only [decide_eq_false_iff_not, decide_eq_true_eq] at *; omega))) kV_X7_63 ⟨rfl, rfl⟩ ⟨Nat.le_of_ble_eq_true rfl, Nat.le_of_ble_eq_true rfl⟩ (hP.recv hC (cM_1 (i := 2) (by decide)) rfl) rfl hl (Nat.le_of_ble_eq_true rfl) ⟨show _ ≤ (0 : Nat) by omega, show _ ≤ (0 : Nat) by omega⟩ dX7_waive_20 ?_
    have hg_1 : j < c.R 11 2 := by have := wf.sl; omega
    refine pi_cast (nm := "") hx hb hC hown hP 7 j (cM_7 hg_1) rfl wCl_X7_85 dX7_waive_23 ?_
    refine pi_get hx hb hC hown hP fL_X7_162 7 j (cM_7 hg_1) (v := .int (bI (c.B 2 j))) rfl dX7_waive_26 ?_
    refine lv_istore_n (lv' := [(2, .int (bI (c.B 2 j))), (0, .ref (ad 0 0)), (1, .int (nI j))]) hx hb dX7_waive_29 rfl hl (by decide) rfl (fun ls hl => ?_)
    refine lv_aload_n hx hb dX7_waive_30 rfl (lv_at hl 1 rfl) ?_
    refine pi_get hx hb hC hown hP fL_X7_23 0 0 cM_0 (v := .ref (ad 1 2)) rfl dX7_waive_31 ?_
    refine lv_iload_n hx hb dX7_waive_34 rfl (lv_at hl 2 rfl) ?_
    refine ro_VR (As := [.int (nI j)]) (h0 := ad 1 2) (rest := []) (v := some (ad 7 j)) hx hb hml hown hC hS hAb (mJ_get l hP 2 (cM_1 (by decide)) (fun h9 => cM_2 (by decide) h9) (hly 2 (by decide)) j (show j < c.R 10 2 by first | assumption | omega | decide | (simp only [decide_eq_false_iff_not, decide_eq_true_eq] at *; omega))) kV_X7_63 ⟨rfl, rfl⟩ ⟨Nat.le_of_ble_eq_true rfl, Nat.le_of_ble_eq_true rfl⟩ (hP.recv hC (cM_1 (i := 2) (by decide)) rfl) rfl hl (Nat.le_of_ble_eq_true rfl) ⟨show _ ≤ (0 : Nat) by omega, show _ ≤ (0 : Nat) by omega⟩ dX7_waive_35 ?_
    have hg_2 : j < c.R 11 2 := by have := wf.sl; omega
    refine pi_cast (nm := "") hx hb hC hown hP 7 j (cM_7 hg_2) rfl wCl_X7_85 dX7_waive_38 ?_
    refine lv_iconstN hx hb 1 dX7_waive_41 (by decide) ?_
    refine pwM_isWaived (R := c.R) (I := c.I) (B := c.B) (Wr := c.Wr) (S := c.sh) hx hb hC hown hX hS hA fP_X7_162 j hg_2 (v := true) (WF.uB wfx _) dX7_waive_42 (fun H locs hX hS => ?_)
    obtain ⟨hP, hly, hLb, wfx, ex0, ex1, ex2⟩ := id hX
    refine lv_iload_n hx hb dX7_waive_45 rfl (lv_at hl 0 rfl) ?_
    refine lv_bif_ne (tgt := 53) hx hb dX7_waive_46 (by decide) (fun c_46 => ?_) (fun c_46 => ?_)
    · skip
      refine lv_iconstN hx hb 0 dX7_waive_53 (by decide) ?_
      exact mu_zretB (b1 := false) hx hb hr hlocks hS (hX) (by decide) (by first | rfl | (simp [c_10, c_46]; done) | (simp [c_10, c_46]; omega) | (simp_all [c_10, c_46]; done)) dX7_waive_54
    · skip
      refine lv_iconstN hx hb 1 dX7_waive_49 (by decide) ?_
      refine lv_goto (tgt := 54) hx hb dX7_waive_50 (by decide) ?_
      exact mu_zretB (b1 := true) hx hb hr hlocks hS (hX) (by decide) (by first | rfl | (simp [c_10, c_46]; done) | (simp [c_10, c_46]; omega) | (simp_all [c_10, c_46]; done)) dX7_waive_54
  · skip
    exact absurd (c_10.symm.trans rfl) (by decide)
set_option maxHeartbeats 4000000 in
set_option maxRecDepth 100000 in
theorem mX7_waive_b1 (l : Launch) {E : En} {c : Cy} {th : Int32} {ly : Ly} {L : List Nat} {ad : Nat → Nat → Nat} {H0 : Heap} (hX : PM E c th ly L ad H0) (v : Int32) (hv : isInS v (nI 0) (nI (c.R 10 2) - nI 1) = false) : MuI l yX7_waive cX7_waive 3 .boolean (rmk 2 0 0 44) [.ref (ad 0 0), .int v] E H0 (bI false) (fun H1 => PM E c (nI 1) ly L ad H1) (cA L H0) 0 0 := by
  obtain ⟨hP, hly, hLb, wf, eq0, eq1, eq2⟩ := id hX
  have wfx := wf
  refine ro_of (by decide) (Nat.le_of_ble_eq_true rfl) ?_
  intro p e s m below meth co ls hx hb hr hml hown hlocks hnm hC hU hl
  have hS : va_S (cA L H0) s.heap H0 [] := by rw [hU]; exact va_S.rf
  have hA : ∀ q, q ∈ L → cA L H0 q := fun q h => Or.inl h
  have hN : ∀ q, s.heap.size ≤ q → cA L H0 q := fun q h => Or.inr (by rw [← hU]; exact h)
  have hAb : ∀ q, cA L H0 q → bA E q := fun q h => h.elim (hLb q) (fun z => Nat.le_trans hC.2.2.2.1 (by rw [hU]; exact z))
  have hl : lv_has ls 3 [(0, .ref (ad 0 0)), (1, .int v)] := hl
  refine lv_aload_n hx hb dX7_waive_0 rfl (lv_at hl 0 rfl) ?_
  refine lv_aload_n hx hb dX7_waive_1 rfl (lv_at hl 0 rfl) ?_
  refine lv_iload_n hx hb dX7_waive_2 rfl (lv_at hl 1 rfl) ?_
  refine ro_V (As := [.int v]) (h0 := ad 0 0) (rest := [.ref (ad 0 0)]) (v := bI (!isInS v (nI 0) (nI (c.R 10 2) - nI 1))) hx hb hml hown hC hS hAb (mX7_isNoLayer l hX v ) kV_X7_203 ⟨rfl, rfl⟩ ⟨Nat.le_of_ble_eq_true rfl, Nat.le_of_ble_eq_true rfl⟩ (hP.recv hC cM_0 rfl) rfl hl (Nat.le_of_ble_eq_true rfl) ⟨show _ ≤ (0 : Nat) by omega, show _ ≤ (0 : Nat) by omega⟩ dX7_waive_3 ?_
  refine lv_iconstN hx hb 1 dX7_waive_6 (by decide) ?_
  rw [(by rw [hv]; rfl : (!isInS v (nI 0) (nI (c.R 10 2) - nI 1)) = true)]
  refine mu_V (As := [.int (bI true), .int (nI 1)]) (h0 := ad 0 0) (rest := []) (v := bI true) hx hb hml hown hC hS hAb (mX7_start_t l hX 1 (show 1 ≤ 1 by first | assumption | omega | decide | (simp only [decide_eq_false_iff_not, decide_eq_true_eq] at *; omega)) (show 1 < 10 by first | assumption | omega | decide | (simp only [decide_eq_false_iff_not, decide_eq_true_eq] at *; omega))) (fun q h => h.elim (hA q) (fun z => hN q (Nat.le_trans hS.1 z))) kV_X7_41 ⟨rfl, rfl⟩ ⟨Nat.le_of_ble_eq_true rfl, Nat.le_of_ble_eq_true rfl⟩ (hP.recv hC cM_0 rfl) rfl hl (Nat.le_of_ble_eq_true rfl) ⟨show 0 + 0 ≤ (0 : Nat) by omega, show 0 + 0 ≤ (0 : Nat) by omega⟩ dX7_waive_7 (fun H locs hB hS9 hz hk => ?_)
  have hS := hS9
  have hX : PM E c (nI 1) ly L ad H := hB
  obtain ⟨hP, hly, hLb, wfx, ex0, ex1, ex2⟩ := id hX
  refine lv_bif_eq (tgt := 15) hx hb dX7_waive_10 (by decide) (fun c_10 => ?_) (fun c_10 => ?_)
  · skip
    exact absurd (c_10.symm.trans rfl) (by decide)
  · skip
    refine lv_iconstN hx hb 0 dX7_waive_13 (by decide) ?_
    exact mu_zretB (b1 := false) hx hb hr hlocks hS (hX) (by decide) (by first | rfl | (simp [c_10]; done) | (simp [c_10]; omega) | (simp_all [c_10]; done)) dX7_waive_14
set_option maxHeartbeats 4000000 in
set_option maxRecDepth 100000 in
theorem mX7_remember_g (l : Launch) {E : En} {c : Cy} {th : Int32} {ly : Ly} {L : List Nat} {ad : Nat → Nat → Nat} {H0 : Heap} (hX : PM E c th ly L ad H0) (j : Nat) (hj : j < c.R 10 2) : MuI l yX7_remember cX7_remember 3 .boolean (rmk 3 0 0 64) [.ref (ad 0 0), .int (nI j)] E H0 (bI (!c.B 3 j)) (fun H1 => PM E (c.R, c.I, up2 c.B 3 j true, c.Wr, c.sh) (nI 0) ly L ad H1) (cA L H0) 0 0 := by
  obtain ⟨hP, hly, hLb, wf, eq0, eq1, eq2⟩ := id hX
  have wfx := wf
  refine ro_of (by decide) (Nat.le_of_ble_eq_true rfl) ?_
  intro p e s m below meth co ls hx hb hr hml hown hlocks hnm hC hU hl
  have hS : va_S (cA L H0) s.heap H0 [] := by rw [hU]; exact va_S.rf
  have hA : ∀ q, q ∈ L → cA L H0 q := fun q h => Or.inl h
  have hN : ∀ q, s.heap.size ≤ q → cA L H0 q := fun q h => Or.inr (by rw [← hU]; exact h)
  have hAb : ∀ q, cA L H0 q → bA E q := fun q h => h.elim (hLb q) (fun z => Nat.le_trans hC.2.2.2.1 (by rw [hU]; exact z))
  have hl : lv_has ls 3 [(0, .ref (ad 0 0)), (1, .int (nI j))] := hl
  refine lv_aload_n hx hb dX7_remember_0 rfl (lv_at hl 0 rfl) ?_
  refine lv_aload_n hx hb dX7_remember_1 rfl (lv_at hl 0 rfl) ?_
  refine lv_iload_n hx hb dX7_remember_2 rfl (lv_at hl 1 rfl) ?_
  refine ro_V (As := [.int (nI j)]) (h0 := ad 0 0) (rest := [.ref (ad 0 0)]) (v := bI (!isInS (nI j) (nI 0) (nI (c.R 10 2) - nI 1))) hx hb hml hown hC hS hAb (mX7_isNoLayer l hX (nI j) ) kV_X7_203 ⟨rfl, rfl⟩ ⟨Nat.le_of_ble_eq_true rfl, Nat.le_of_ble_eq_true rfl⟩ (hP.recv hC cM_0 rfl) rfl hl (Nat.le_of_ble_eq_true rfl) ⟨show _ ≤ (0 : Nat) by omega, show _ ≤ (0 : Nat) by omega⟩ dX7_remember_3 ?_
  refine lv_iconstN hx hb 1 dX7_remember_6 (by decide) ?_
  rw [(by rw [isIn_t hj (by have := wf.sw; have := wf.sh'; have := wf.sl; have := wf.nw; have := wf.nh; have := wf.nl; omega)]; rfl : (!isInS (nI j) (nI 0) (nI (c.R 10 2) - nI 1)) = false)]
  refine mu_V (As := [.int (bI false), .int (nI 1)]) (h0 := ad 0 0) (rest := []) (v := bI false) hx hb hml hown hC hS hAb (mX7_start_f l hX 1 ) (fun q h => h.elim (hA q) (fun z => hN q (Nat.le_trans hS.1 z))) kV_X7_41 ⟨rfl, rfl⟩ ⟨Nat.le_of_ble_eq_true rfl, Nat.le_of_ble_eq_true rfl⟩ (hP.recv hC cM_0 rfl) rfl hl (Nat.le_of_ble_eq_true rfl) ⟨show 0 + 0 ≤ (0 : Nat) by omega, show 0 + 0 ≤ (0 : Nat) by omega⟩ dX7_remember_7 (fun H locs hB hS9 hz hk => ?_)
  have hS := hS9
  have hX : PM E c (nI 0) ly L ad H := hB
  obtain ⟨hP, hly, hLb, wfx, ex0, ex1, ex2⟩ := id hX
  refine lv_bif_eq (tgt := 15) hx hb dX7_remember_10 (by decide) (fun c_10 => ?_) (fun c_10 => ?_)
  · skip
    refine lv_aload_n hx hb dX7_remember_15 rfl (lv_at hl 0 rfl) ?_
    refine pi_get hx hb hC hown hP fL_X7_23 0 0 cM_0 (v := .ref (ad 1 2)) rfl dX7_remember_16 ?_
    refine lv_iload_n hx hb dX7_remember_19 rfl (lv_at hl 1 rfl) ?_
    refine ro_VR (As := [.int (nI j)]) (h0 := ad 1 2) (rest := []) (v := some (ad 7 j)) hx hb hml hown hC hS hAb (mJ_get l hP 2 (cM_1 (by decide)) (fun h9 => cM_2 (by decide) h9) (hly 2 (by decide)) j (show j < c.R 10 2 by first | assumption | omega | decide | (simp only [decide_eq_false_iff_not, decide_eq_true_eq] at *; omega))) kV_X7_63 ⟨rfl, rfl⟩ ⟨Nat.le_of_ble_eq_true rfl, Nat.le_of_ble_eq_true rfl⟩ (hP.recv hC (cM_1 (i := 2) (by decide)) rfl) rfl hl (Nat.le_of_ble_eq_true rfl) ⟨show _ ≤ (0 : Nat) by omega, show _ ≤ (0 : Nat) by omega⟩ dX7_remember_20 ?_
    have hg_1 : j < c.R 11 2 := by have := wf.sl; omega
    refine pi_cast (nm := "") hx hb hC hown hP 7 j (cM_7 hg_1) rfl wCl_X7_85 dX7_remember_23 ?_
    refine pi_get hx hb hC hown hP fL_X7_89 7 j (cM_7 hg_1) (v := .int (bI (c.B 3 j))) rfl dX7_remember_26 ?_
    refine lv_istore_n (lv' := [(2, .int (bI (c.B 3 j))), (0, .ref (ad 0 0)), (1, .int (nI j))]) hx hb dX7_remember_29 rfl hl (by decide) rfl (fun ls hl => ?_)
    refine lv_aload_n hx hb dX7_remember_30 rfl (lv_at hl 1 rfl) ?_
    refine pi_get hx hb hC hown hP fL_X7_23 0 0 cM_0 (v := .ref (ad 1 2)) rfl dX7_remember_31 ?_
    refine lv_iload_n hx hb dX7_remember_34 rfl (lv_at hl 2 rfl) ?_
    refine ro_VR (As := [.int (nI j)]) (h0 := ad 1 2) (rest := []) (v := some (ad 7 j)) hx hb hml hown hC hS hAb (mJ_get l hP 2 (cM_1 (by decide)) (fun h9 => cM_2 (by decide) h9) (hly 2 (by decide)) j (show j < c.R 10 2 by first | assumption | omega | decide | (simp only [decide_eq_false_iff_not, decide_eq_true_eq] at *; omega))) kV_X7_63 ⟨rfl, rfl⟩ ⟨Nat.le_of_ble_eq_true rfl, Nat.le_of_ble_eq_true rfl⟩ (hP.recv hC (cM_1 (i := 2) (by decide)) rfl) rfl hl (Nat.le_of_ble_eq_true rfl) ⟨show _ ≤ (0 : Nat) by omega, show _ ≤ (0 : Nat) by omega⟩ dX7_remember_35 ?_
    have hg_2 : j < c.R 11 2 := by have := wf.sl; omega
    refine pi_cast (nm := "") hx hb hC hown hP 7 j (cM_7 hg_2) rfl wCl_X7_85 dX7_remember_38 ?_
    refine lv_iconstN hx hb 1 dX7_remember_41 (by decide) ?_
    refine pwM_isMemorial (R := c.R) (I := c.I) (B := c.B) (Wr := c.Wr) (S := c.sh) hx hb hC hown hX hS hA fP_X7_89 j hg_2 (v := true) (WF.uB wfx _) dX7_remember_42 (fun H locs hX hS => ?_)
    obtain ⟨hP, hly, hLb, wfx, ex0, ex1, ex2⟩ := id hX
    refine lv_iload_n hx hb dX7_remember_45 rfl (lv_at hl 0 rfl) ?_
    refine lv_bif_ne (tgt := 53) hx hb dX7_remember_46 (by decide) (fun c_46 => ?_) (fun c_46 => ?_)
    · skip
      refine lv_iconstN hx hb 0 dX7_remember_53 (by decide) ?_
      exact mu_zretB (b1 := false) hx hb hr hlocks hS (hX) (by decide) (by first | rfl | (simp [c_10, c_46]; done) | (simp [c_10, c_46]; omega) | (simp_all [c_10, c_46]; done)) dX7_remember_54
    · skip
      refine lv_iconstN hx hb 1 dX7_remember_49 (by decide) ?_
      refine lv_goto (tgt := 54) hx hb dX7_remember_50 (by decide) ?_
      exact mu_zretB (b1 := true) hx hb hr hlocks hS (hX) (by decide) (by first | rfl | (simp [c_10, c_46]; done) | (simp [c_10, c_46]; omega) | (simp_all [c_10, c_46]; done)) dX7_remember_54
  · skip
    exact absurd (c_10.symm.trans rfl) (by decide)
set_option maxHeartbeats 4000000 in
set_option maxRecDepth 100000 in
theorem mX7_remember_b1 (l : Launch) {E : En} {c : Cy} {th : Int32} {ly : Ly} {L : List Nat} {ad : Nat → Nat → Nat} {H0 : Heap} (hX : PM E c th ly L ad H0) (v : Int32) (hv : isInS v (nI 0) (nI (c.R 10 2) - nI 1) = false) : MuI l yX7_remember cX7_remember 3 .boolean (rmk 2 0 0 44) [.ref (ad 0 0), .int v] E H0 (bI false) (fun H1 => PM E c (nI 1) ly L ad H1) (cA L H0) 0 0 := by
  obtain ⟨hP, hly, hLb, wf, eq0, eq1, eq2⟩ := id hX
  have wfx := wf
  refine ro_of (by decide) (Nat.le_of_ble_eq_true rfl) ?_
  intro p e s m below meth co ls hx hb hr hml hown hlocks hnm hC hU hl
  have hS : va_S (cA L H0) s.heap H0 [] := by rw [hU]; exact va_S.rf
  have hA : ∀ q, q ∈ L → cA L H0 q := fun q h => Or.inl h
  have hN : ∀ q, s.heap.size ≤ q → cA L H0 q := fun q h => Or.inr (by rw [← hU]; exact h)
  have hAb : ∀ q, cA L H0 q → bA E q := fun q h => h.elim (hLb q) (fun z => Nat.le_trans hC.2.2.2.1 (by rw [hU]; exact z))
  have hl : lv_has ls 3 [(0, .ref (ad 0 0)), (1, .int v)] := hl
  refine lv_aload_n hx hb dX7_remember_0 rfl (lv_at hl 0 rfl) ?_
  refine lv_aload_n hx hb dX7_remember_1 rfl (lv_at hl 0 rfl) ?_
  refine lv_iload_n hx hb dX7_remember_2 rfl (lv_at hl 1 rfl) ?_
  refine ro_V (As := [.int v]) (h0 := ad 0 0) (rest := [.ref (ad 0 0)]) (v := bI (!isInS v (nI 0) (nI (c.R 10 2) - nI 1))) hx hb hml hown hC hS hAb (mX7_isNoLayer l hX v ) kV_X7_203 ⟨rfl, rfl⟩ ⟨Nat.le_of_ble_eq_true rfl, Nat.le_of_ble_eq_true rfl⟩ (hP.recv hC cM_0 rfl) rfl hl (Nat.le_of_ble_eq_true rfl) ⟨show _ ≤ (0 : Nat) by omega, show _ ≤ (0 : Nat) by omega⟩ dX7_remember_3 ?_
  refine lv_iconstN hx hb 1 dX7_remember_6 (by decide) ?_
  rw [(by rw [hv]; rfl : (!isInS v (nI 0) (nI (c.R 10 2) - nI 1)) = true)]
  refine mu_V (As := [.int (bI true), .int (nI 1)]) (h0 := ad 0 0) (rest := []) (v := bI true) hx hb hml hown hC hS hAb (mX7_start_t l hX 1 (show 1 ≤ 1 by first | assumption | omega | decide | (simp only [decide_eq_false_iff_not, decide_eq_true_eq] at *; omega)) (show 1 < 10 by first | assumption | omega | decide | (simp only [decide_eq_false_iff_not, decide_eq_true_eq] at *; omega))) (fun q h => h.elim (hA q) (fun z => hN q (Nat.le_trans hS.1 z))) kV_X7_41 ⟨rfl, rfl⟩ ⟨Nat.le_of_ble_eq_true rfl, Nat.le_of_ble_eq_true rfl⟩ (hP.recv hC cM_0 rfl) rfl hl (Nat.le_of_ble_eq_true rfl) ⟨show 0 + 0 ≤ (0 : Nat) by omega, show 0 + 0 ≤ (0 : Nat) by omega⟩ dX7_remember_7 (fun H locs hB hS9 hz hk => ?_)
  have hS := hS9
  have hX : PM E c (nI 1) ly L ad H := hB
  obtain ⟨hP, hly, hLb, wfx, ex0, ex1, ex2⟩ := id hX
  refine lv_bif_eq (tgt := 15) hx hb dX7_remember_10 (by decide) (fun c_10 => ?_) (fun c_10 => ?_)
  · skip
    exact absurd (c_10.symm.trans rfl) (by decide)
  · skip
    refine lv_iconstN hx hb 0 dX7_remember_13 (by decide) ?_
    exact mu_zretB (b1 := false) hx hb hr hlocks hS (hX) (by decide) (by first | rfl | (simp [c_10]; done) | (simp [c_10]; omega) | (simp_all [c_10]; done)) dX7_remember_14
set_option maxHeartbeats 4000000 in
set_option maxRecDepth 100000 in
theorem mX7_buff_g (l : Launch) {E : En} {c : Cy} {th : Int32} {ly : Ly} {L : List Nat} {ad : Nat → Nat → Nat} {H0 : Heap} (hX : PM E c th ly L ad H0) (i : Nat) (hi : i < c.R 10 0) (hc : ¬ c.I 0 0 < nI (ctbS c i)) : MuI l yX7_buff cX7_buff 5 .int (rmk 6 0 0 134) [.ref (ad 0 0), .int (nI i)] E H0 (nI (ctbS c i)) (fun H1 => PM E (c.R, up2 c.I 0 0 (c.I 0 0 - nI (ctbS c i)), c.B, c.Wr, mk1 c.sh i (c.R 1 i) (tbS c i)) (nI 0) ly L ad H1) (cA L H0) 0 0 := by
  obtain ⟨hP, hly, hLb, wf, eq0, eq1, eq2⟩ := id hX
  have wfx := wf
  refine ro_of (by decide) (Nat.le_of_ble_eq_true rfl) ?_
  intro p e s m below meth co ls hx hb hr hml hown hlocks hnm hC hU hl
  have hS : va_S (cA L H0) s.heap H0 [] := by rw [hU]; exact va_S.rf
  have hA : ∀ q, q ∈ L → cA L H0 q := fun q h => Or.inl h
  have hN : ∀ q, s.heap.size ≤ q → cA L H0 q := fun q h => Or.inr (by rw [← hU]; exact h)
  have hAb : ∀ q, cA L H0 q → bA E q := fun q h => h.elim (hLb q) (fun z => Nat.le_trans hC.2.2.2.1 (by rw [hU]; exact z))
  have hl : lv_has ls 5 [(0, .ref (ad 0 0)), (1, .int (nI i))] := hl
  have hi2 : i < c.R 11 0 := by have := wf.sw; omega
  have gw := wf.wd hi2
  refine lv_aload_n hx hb dX7_buff_0 rfl (lv_at hl 0 rfl) ?_
  refine lv_aload_n hx hb dX7_buff_1 rfl (lv_at hl 0 rfl) ?_
  refine lv_iload_n hx hb dX7_buff_2 rfl (lv_at hl 1 rfl) ?_
  refine ro_V (As := [.int (nI i)]) (h0 := ad 0 0) (rest := [.ref (ad 0 0)]) (v := bI (!isInS (nI i) (nI 0) (nI (c.R 10 0) - nI 1))) hx hb hml hown hC hS hAb (mX7_isNoWall l hX (nI i) ) kV_X7_56 ⟨rfl, rfl⟩ ⟨Nat.le_of_ble_eq_true rfl, Nat.le_of_ble_eq_true rfl⟩ (hP.recv hC cM_0 rfl) rfl hl (Nat.le_of_ble_eq_true rfl) ⟨show _ ≤ (0 : Nat) by omega, show _ ≤ (0 : Nat) by omega⟩ dX7_buff_3 ?_
  refine lv_iconstN hx hb 1 dX7_buff_6 (by decide) ?_
  rw [(by rw [isIn_t hi (by have := wf.sw; have := wf.sh'; have := wf.sl; have := wf.nw; have := wf.nh; have := wf.nl; omega)]; rfl : (!isInS (nI i) (nI 0) (nI (c.R 10 0) - nI 1)) = false)]
  refine mu_V (As := [.int (bI false), .int (nI 1)]) (h0 := ad 0 0) (rest := []) (v := bI false) hx hb hml hown hC hS hAb (mX7_start_f l hX 1 ) (fun q h => h.elim (hA q) (fun z => hN q (Nat.le_trans hS.1 z))) kV_X7_41 ⟨rfl, rfl⟩ ⟨Nat.le_of_ble_eq_true rfl, Nat.le_of_ble_eq_true rfl⟩ (hP.recv hC cM_0 rfl) rfl hl (Nat.le_of_ble_eq_true rfl) ⟨show 0 + 0 ≤ (0 : Nat) by omega, show 0 + 0 ≤ (0 : Nat) by omega⟩ dX7_buff_7 (fun H locs hB hS9 hz hk => ?_)
  have hS := hS9
  have hX : PM E c (nI 0) ly L ad H := hB
  obtain ⟨hP, hly, hLb, wfx, ex0, ex1, ex2⟩ := id hX
  refine lv_bif_ne (tgt := 38) hx hb dX7_buff_10 (by decide) (fun c_10 => ?_) (fun c_10 => ?_)
  · skip
    exact absurd (c_10.symm.trans rfl) (by decide)
  · skip
    refine lv_aload_n hx hb dX7_buff_13 rfl (lv_at hl 0 rfl) ?_
    refine lv_aload_n hx hb dX7_buff_14 rfl (lv_at hl 0 rfl) ?_
    refine lv_iload_n hx hb dX7_buff_15 rfl (lv_at hl 1 rfl) ?_
    refine ro_V (As := [.int (nI i)]) (h0 := ad 0 0) (rest := [.ref (ad 0 0)]) (v := nI (ctbS c i)) hx hb hml hown hC hS hAb (mX7_buffs l hX i (show i < c.R 11 0 by first | assumption | omega | decide | (simp only [decide_eq_false_iff_not, decide_eq_true_eq] at *; omega))) kV_X7_159 ⟨rfl, rfl⟩ ⟨Nat.le_of_ble_eq_true rfl, Nat.le_of_ble_eq_true rfl⟩ (hP.recv hC cM_0 rfl) rfl hl (Nat.le_of_ble_eq_true rfl) ⟨show _ ≤ (0 : Nat) by omega, show _ ≤ (0 : Nat) by omega⟩ dX7_buff_16 ?_
    refine lv_aload_n hx hb dX7_buff_19 rfl (lv_at hl 0 rfl) ?_
    refine pi_get hx hb hC hown hP fL_X7_9 0 0 cM_0 (v := .int (c.I 0 0)) rfl dX7_buff_20 ?_
    refine lv_icmp_le (tgt := 30) hx hb dX7_buff_23 (by decide) (fun c_23 => ?_) (fun c_23 => ?_)
    · skip
      have c_23 := Int32.not_lt.mpr c_23
      refine lv_iconstN hx hb 0 dX7_buff_30 (by decide) ?_
      refine lv_iconstN hx hb 2 dX7_buff_31 (by decide) ?_
      refine mu_V (As := [.int (nI 0), .int (nI 2)]) (h0 := ad 0 0) (rest := []) (v := bI false) hx hb hml hown hC hS hAb (mX7_refuse_f l hX 2 ) (fun q h => h.elim (hA q) (fun z => hN q (Nat.le_trans hS.1 z))) kV_X7_29 ⟨rfl, rfl⟩ ⟨Nat.le_of_ble_eq_true rfl, Nat.le_of_ble_eq_true rfl⟩ (hP.recv hC cM_0 rfl) rfl hl (Nat.le_of_ble_eq_true rfl) ⟨show 0 + 0 ≤ (0 : Nat) by omega, show 0 + 0 ≤ (0 : Nat) by omega⟩ dX7_buff_32 (fun H locs hB hS9 hz hk => ?_)
      have hS := hS9
      have hX : PM E c (nI 0) ly L ad H := hB
      obtain ⟨hP, hly, hLb, wfx, ex0, ex1, ex2⟩ := id hX
      refine lv_bif_eq (tgt := 40) hx hb dX7_buff_35 (by decide) (fun c_35 => ?_) (fun c_35 => ?_)
      · skip
        refine lv_aload_n hx hb dX7_buff_40 rfl (lv_at hl 0 rfl) ?_
        refine lv_iload_n hx hb dX7_buff_41 rfl (lv_at hl 1 rfl) ?_
        refine ro_V (As := [.int (nI i)]) (h0 := ad 0 0) (rest := []) (v := nI (ctbS c i)) hx hb hml hown hC hS hAb (mX7_buffs l hX i (show i < c.R 11 0 by first | assumption | omega | decide | (simp only [decide_eq_false_iff_not, decide_eq_true_eq] at *; omega))) kV_X7_159 ⟨rfl, rfl⟩ ⟨Nat.le_of_ble_eq_true rfl, Nat.le_of_ble_eq_true rfl⟩ (hP.recv hC cM_0 rfl) rfl hl (Nat.le_of_ble_eq_true rfl) ⟨show _ ≤ (0 : Nat) by omega, show _ ≤ (0 : Nat) by omega⟩ dX7_buff_42 ?_
        refine lv_istore_n (lv' := [(2, .int (nI (ctbS c i))), (0, .ref (ad 0 0)), (1, .int (nI i))]) hx hb dX7_buff_45 rfl hl (by decide) rfl (fun ls hl => ?_)
        refine lv_aload_n hx hb dX7_buff_46 rfl (lv_at hl 1 rfl) ?_
        refine pi_get hx hb hC hown hP fL_X7_16 0 0 cM_0 (v := .ref (ad 1 0)) rfl dX7_buff_47 ?_
        refine lv_iload_n hx hb dX7_buff_50 rfl (lv_at hl 2 rfl) ?_
        refine ro_VR (As := [.int (nI i)]) (h0 := ad 1 0) (rest := []) (v := some (ad 3 i)) hx hb hml hown hC hS hAb (mJ_get l hP 0 (cM_1 (by decide)) (fun h9 => cM_2 (by decide) h9) (hly 0 (by decide)) i (show i < c.R 10 0 by first | assumption | omega | decide | (simp only [decide_eq_false_iff_not, decide_eq_true_eq] at *; omega))) kV_X7_63 ⟨rfl, rfl⟩ ⟨Nat.le_of_ble_eq_true rfl, Nat.le_of_ble_eq_true rfl⟩ (hP.recv hC (cM_1 (i := 0) (by decide)) rfl) rfl hl (Nat.le_of_ble_eq_true rfl) ⟨show _ ≤ (0 : Nat) by omega, show _ ≤ (0 : Nat) by omega⟩ dX7_buff_51 ?_
        have hg_1 : i < c.R 11 0 := by have := wf.sw; omega
        refine pi_cast (nm := "") hx hb hC hown hP 3 i (cM_3 hg_1) rfl wCl_X7_44 dX7_buff_54 ?_
        refine pi_get hx hb hC hown hP fL_X7_97 3 i (cM_3 hg_1) (v := .ref (ad 4 i)) rfl dX7_buff_57 ?_
        have g_2 : 4 ≤ c.R 1 i ∧ c.R 1 i ≤ 16 := wfx.wd hg_1
        refine lv_astore_n (lv' := [(3, .ref (ad 4 i)), (2, .int (nI (ctbS c i))), (0, .ref (ad 0 0)), (1, .int (nI i))]) hx hb dX7_buff_60 rfl hl (by decide) rfl (fun ls hl => ?_)
        refine lv_iconstN hx hb 0 dX7_buff_61 (by decide) ?_
        refine lv_istore (lv' := [(4, .int (nI 0)), (3, .ref (ad 4 i)), (2, .int (nI (ctbS c i))), (0, .ref (ad 0 0)), (1, .int (nI i))]) hx hb dX7_buff_62 hl (by decide) rfl (fun ls hl => ?_)
        have lp64 : ∀ fu : Nat, ∀ (k : Nat), k ≤ c.R 1 i → c.R 1 i - k < fu → ∀ (H : Heap) (locs : List Loc), PM E (c.R, c.I, c.B, c.Wr, mk1 c.sh i k (tbS c i)) (nI 0) ly L ad H → va_S (cA L H0) s.heap H locs → ∀ ls : Array Slot, lv_has ls 5 [(0, .ref (ad 0 0)), (1, .int (nI i)), (2, .int (nI (ctbS c i))), (3, .ref (ad 4 i)), (4, .int (nI k))] → W p l e (rmk 6 0 0 134) s m ([.ref (ad 0 0), .int (nI i)] : List Value).toArray below meth co H locs 0 0 (MQ below (QiM (nI (ctbS c i)) (fun H1 => PM E (c.R, up2 c.I 0 0 (c.I 0 0 - nI (ctbS c i)), c.B, c.Wr, mk1 c.sh i (c.R 1 i) (tbS c i)) (nI 0) ly L ad H1) (cA L H0)) ([.ref (ad 0 0), .int (nI i)] : List Value).toArray s 0 0 (cA L H0)) (F0 m 64 ls []) := by
          intro fu
          induction fu with
          | zero => intro k hk hfu; exact absurd hfu (Nat.not_lt_zero _)
          | succ fu ih64 =>
            intro k hk hfu H locs hX hS ls hl
            obtain ⟨hP, hly, hLb, wfx, ex0, ex1, ex2⟩ := id hX
            refine lv_iload hx hb dX7_buff_64 (lv_at hl 4 rfl) ?_
            refine lv_aload_n hx hb dX7_buff_66 rfl (lv_at hl 3 rfl) ?_
            refine pi_alen (n := c.R 1 i) hx hb hC hP 4 i 0 rfl (cM_4 hg_1) dX7_buff_67 ?_
            have g_3 : 4 ≤ c.R 1 i ∧ c.R 1 i ≤ 16 := wfx.wd hg_1
            refine lv_icmpN_ge (tgt := 94) hx hb dX7_buff_68 (by decide) (by omega) (by omega) (fun c_68 => ?_) (fun c_68 => ?_)
            · skip
              refine lv_aload_n hx hb dX7_buff_94 rfl (lv_at hl 0 rfl) ?_
              refine lv_dup hx hb dX7_buff_95 rfl ?_
              refine pi_get hx hb hC hown hP fL_X7_9 0 0 cM_0 (v := .int (c.I 0 0)) rfl dX7_buff_96 ?_
              refine lv_iload_n hx hb dX7_buff_99 rfl (lv_at hl 2 rfl) ?_
              refine lv_isub hx hb dX7_buff_100 ?_
              refine pwM_coins (R := c.R) (I := c.I) (B := c.B) (Wr := c.Wr) (S := mk1 c.sh i k (tbS c i)) hx hb hC hown hX hS hA fP_X7_9 (v := (c.I 0 0) - (nI (ctbS c i))) (WF.uI wfx (by decide)) dX7_buff_101 (fun H locs hX hS => ?_)
              obtain ⟨hP, hly, hLb, wfx, ex0, ex1, ex2⟩ := id hX
              refine lv_iload_n hx hb dX7_buff_104 rfl (lv_at hl 2 rfl) ?_
              exact mu_iret (x := nI (ctbS c i)) hx hb hr hlocks hS (by have z : k = c.R 1 i := (by omega); show PM _ _ _ _ _ _ _; rw [← z]; exact hX) (by first | rfl | (simp [c_10, c_23, c_35, c_68]; done) | (simp [c_10, c_23, c_35, c_68]; omega) | (simp_all [c_10, c_23, c_35, c_68]; done)) dX7_buff_105
            · skip
              refine lv_aload_n hx hb dX7_buff_71 rfl (lv_at hl 0 rfl) ?_
              refine lv_iload_n hx hb dX7_buff_72 rfl (lv_at hl 1 rfl) ?_
              refine lv_aload_n hx hb dX7_buff_73 rfl (lv_at hl 3 rfl) ?_
              refine lv_iload hx hb dX7_buff_74 (lv_at hl 4 rfl) ?_
              refine pi_iald (n := c.R 1 i) hx hb hC hP 4 i (cM_4 hg_1) (j := k) (by first | assumption | omega) (by omega) dX7_buff_76 ?_
              rcases d_76 : (mk1 c.sh i k (tbS c i)) i k with _ | j_76
              · skip
                have sd_76 : shI (c.R, c.I, c.B, c.Wr, mk1 c.sh i k (tbS c i)) i k = -1 := shI_n d_76
                rw [sd_76]
                refine ro_V (As := [.int (nI i), .int (-1)]) (h0 := ad 0 0) (rest := []) (v := bI false) hx hb hml hown hC hS hAb (mX7_isBuffedn l hX i hg_1) kV_X7_156 ⟨rfl, rfl⟩ ⟨Nat.le_of_ble_eq_true rfl, Nat.le_of_ble_eq_true rfl⟩ (hP.recv hC cM_0 rfl) rfl hl (Nat.le_of_ble_eq_true rfl) ⟨show _ ≤ (0 : Nat) by omega, show _ ≤ (0 : Nat) by omega⟩ dX7_buff_77 ?_
                refine lv_bif_eq (tgt := 88) hx hb dX7_buff_80 (by decide) (fun c_80 => ?_) (fun c_80 => ?_)
                · skip
                  refine lv_iincN (v := 1) (lv' := [(4, .int (nI (k + 1))), (0, .ref (ad 0 0)), (1, .int (nI i)), (2, .int (nI (ctbS c i))), (3, .ref (ad 4 i))]) hx hb dX7_buff_88 hl (k := 4) rfl (by decide) (by decide) rfl (fun ls hl => ?_)
                  refine lv_goto (tgt := 64) hx hb dX7_buff_91 (by decide) ?_
                  have esh : mk1 c.sh i k (tbS c i) = mk1 c.sh i (k + 1) (tbS c i) := by first | exact mk1_t (tb_s (mk1_at.symm.trans d_76) c_80) | exact mk1_f (tb_f (mk1_at.symm.trans d_76) c_80) | exact mk1_f (tb_n (mk1_at.symm.trans d_76))
                  have hX : PM E (c.R, c.I, c.B, c.Wr, mk1 c.sh i (k + 1) (tbS c i)) (nI 0) ly L ad H := by rw [← esh]; exact hX
                  exact ih64 (k + 1) (by first | rfl | assumption | omega | (simp [c_10, c_23, c_35, c_68, d_76, c_80]; done) | (simp_all [c_10, c_23, c_35, c_68, d_76, c_80]; done)) (by omega) _ _ hX hS _ (lv_sub hl [1, 2, 3, 4, 0] rfl)
                · skip
                  exact absurd (c_80.symm.trans rfl) (by decide)
              · skip
                have sd_76 : shI (c.R, c.I, c.B, c.Wr, mk1 c.sh i k (tbS c i)) i k = nI j_76 := shI_s d_76
                rw [sd_76]
                have hj_76 : j_76 < c.R 11 2 := wfx.sj hg_1 (by first | assumption | omega) d_76
                have g_4 := wf.nl
                refine ro_V (As := [.int (nI i), .int (nI j_76)]) (h0 := ad 0 0) (rest := []) (v := bI (!c.B 1 j_76 || !permS c (c.R 5 j_76) i)) hx hb hml hown hC hS hAb (mX7_isBuffeds l hX i j_76 hg_1 hj_76) kV_X7_156 ⟨rfl, rfl⟩ ⟨Nat.le_of_ble_eq_true rfl, Nat.le_of_ble_eq_true rfl⟩ (hP.recv hC cM_0 rfl) rfl hl (Nat.le_of_ble_eq_true rfl) ⟨show _ ≤ (0 : Nat) by omega, show _ ≤ (0 : Nat) by omega⟩ dX7_buff_77 ?_
                refine lv_bif_eq (tgt := 88) hx hb dX7_buff_80 (by decide) (fun c_80 => ?_) (fun c_80 => ?_)
                · skip
                  refine lv_iincN (v := 1) (lv' := [(4, .int (nI (k + 1))), (0, .ref (ad 0 0)), (1, .int (nI i)), (2, .int (nI (ctbS c i))), (3, .ref (ad 4 i))]) hx hb dX7_buff_88 hl (k := 4) rfl (by decide) (by decide) rfl (fun ls hl => ?_)
                  refine lv_goto (tgt := 64) hx hb dX7_buff_91 (by decide) ?_
                  have esh : mk1 c.sh i k (tbS c i) = mk1 c.sh i (k + 1) (tbS c i) := by first | exact mk1_t (tb_s (mk1_at.symm.trans d_76) c_80) | exact mk1_f (tb_f (mk1_at.symm.trans d_76) c_80) | exact mk1_f (tb_n (mk1_at.symm.trans d_76))
                  have hX : PM E (c.R, c.I, c.B, c.Wr, mk1 c.sh i (k + 1) (tbS c i)) (nI 0) ly L ad H := by rw [← esh]; exact hX
                  exact ih64 (k + 1) (by first | rfl | assumption | omega | (simp [c_10, c_23, c_35, c_68, d_76, c_80]; done) | (simp_all [c_10, c_23, c_35, c_68, d_76, c_80]; done)) (by omega) _ _ hX hS _ (lv_sub hl [1, 2, 3, 4, 0] rfl)
                · skip
                  refine lv_aload_n hx hb dX7_buff_83 rfl (lv_at hl 3 rfl) ?_
                  refine lv_iload hx hb dX7_buff_84 (lv_at hl 4 rfl) ?_
                  refine lv_iconst (v := -1) hx hb dX7_buff_86 (by decide) ?_
                  refine pwM_shownN (R := c.R) (I := c.I) (B := c.B) (Wr := c.Wr) (S := mk1 c.sh i k (tbS c i)) hx hb hC hX hS hA i hg_1 (y := k) (by first | assumption | omega) (by omega) (WF.uS wfx (fun _ z => by cases z)) dX7_buff_87 (fun H locs hX hS => ?_)
                  obtain ⟨hP, hly, hLb, wfx, ex0, ex1, ex2⟩ := id hX
                  refine lv_iincN (v := 1) (lv' := [(4, .int (nI (k + 1))), (0, .ref (ad 0 0)), (1, .int (nI i)), (2, .int (nI (ctbS c i))), (3, .ref (ad 4 i))]) hx hb dX7_buff_88 hl (k := 4) rfl (by decide) (by decide) rfl (fun ls hl => ?_)
                  refine lv_goto (tgt := 64) hx hb dX7_buff_91 (by decide) ?_
                  have esh : up2 (mk1 c.sh i k (tbS c i)) i k none = mk1 c.sh i (k + 1) (tbS c i) := by first | exact mk1_t (tb_s (mk1_at.symm.trans d_76) c_80) | exact mk1_f (tb_f (mk1_at.symm.trans d_76) c_80) | exact mk1_f (tb_n (mk1_at.symm.trans d_76))
                  have hX : PM E (c.R, c.I, c.B, c.Wr, mk1 c.sh i (k + 1) (tbS c i)) (nI 0) ly L ad H := by rw [← esh]; exact hX
                  exact ih64 (k + 1) (by first | rfl | assumption | omega | (simp [c_10, c_23, c_35, c_68, d_76, c_80]; done) | (simp_all [c_10, c_23, c_35, c_68, d_76, c_80]; done)) (by omega) _ _ hX hS _ (lv_sub hl [1, 2, 3, 4, 0] rfl)
        have esh : c.sh = mk1 c.sh i 0 (tbS c i) := mk1_0.symm
        have hX : PM E (c.R, c.I, c.B, c.Wr, mk1 c.sh i 0 (tbS c i)) (nI 0) ly L ad H := by rw [← esh]; exact hX
        exact lp64 (c.R 1 i - 0 + 1) 0 (by first | rfl | assumption | omega | (simp [c_10, c_23, c_35]; done) | (simp_all [c_10, c_23, c_35]; done)) (Nat.lt_succ_self _) _ _ hX hS _ (lv_sub hl [3, 4, 2, 1, 0] rfl)
      · skip
        exact absurd (c_35.symm.trans rfl) (by decide)
    · skip
      have c_23 := Int32.not_le.mp c_23
      exact absurd c_23 hc
set_option maxHeartbeats 4000000 in
set_option maxRecDepth 100000 in
theorem mX7_buff_b1 (l : Launch) {E : En} {c : Cy} {th : Int32} {ly : Ly} {L : List Nat} {ad : Nat → Nat → Nat} {H0 : Heap} (hX : PM E c th ly L ad H0) (v : Int32) (hv : isInS v (nI 0) (nI (c.R 10 0) - nI 1) = false) : MuI l yX7_buff cX7_buff 5 .int (rmk 2 0 0 44) [.ref (ad 0 0), .int v] E H0 (nI 0) (fun H1 => PM E c (nI 1) ly L ad H1) (cA L H0) 0 0 := by
  obtain ⟨hP, hly, hLb, wf, eq0, eq1, eq2⟩ := id hX
  have wfx := wf
  refine ro_of (by decide) (Nat.le_of_ble_eq_true rfl) ?_
  intro p e s m below meth co ls hx hb hr hml hown hlocks hnm hC hU hl
  have hS : va_S (cA L H0) s.heap H0 [] := by rw [hU]; exact va_S.rf
  have hA : ∀ q, q ∈ L → cA L H0 q := fun q h => Or.inl h
  have hN : ∀ q, s.heap.size ≤ q → cA L H0 q := fun q h => Or.inr (by rw [← hU]; exact h)
  have hAb : ∀ q, cA L H0 q → bA E q := fun q h => h.elim (hLb q) (fun z => Nat.le_trans hC.2.2.2.1 (by rw [hU]; exact z))
  have hl : lv_has ls 5 [(0, .ref (ad 0 0)), (1, .int v)] := hl
  refine lv_aload_n hx hb dX7_buff_0 rfl (lv_at hl 0 rfl) ?_
  refine lv_aload_n hx hb dX7_buff_1 rfl (lv_at hl 0 rfl) ?_
  refine lv_iload_n hx hb dX7_buff_2 rfl (lv_at hl 1 rfl) ?_
  refine ro_V (As := [.int v]) (h0 := ad 0 0) (rest := [.ref (ad 0 0)]) (v := bI (!isInS v (nI 0) (nI (c.R 10 0) - nI 1))) hx hb hml hown hC hS hAb (mX7_isNoWall l hX v ) kV_X7_56 ⟨rfl, rfl⟩ ⟨Nat.le_of_ble_eq_true rfl, Nat.le_of_ble_eq_true rfl⟩ (hP.recv hC cM_0 rfl) rfl hl (Nat.le_of_ble_eq_true rfl) ⟨show _ ≤ (0 : Nat) by omega, show _ ≤ (0 : Nat) by omega⟩ dX7_buff_3 ?_
  refine lv_iconstN hx hb 1 dX7_buff_6 (by decide) ?_
  rw [(by rw [hv]; rfl : (!isInS v (nI 0) (nI (c.R 10 0) - nI 1)) = true)]
  refine mu_V (As := [.int (bI true), .int (nI 1)]) (h0 := ad 0 0) (rest := []) (v := bI true) hx hb hml hown hC hS hAb (mX7_start_t l hX 1 (show 1 ≤ 1 by first | assumption | omega | decide | (simp only [decide_eq_false_iff_not, decide_eq_true_eq] at *; omega)) (show 1 < 10 by first | assumption | omega | decide | (simp only [decide_eq_false_iff_not, decide_eq_true_eq] at *; omega))) (fun q h => h.elim (hA q) (fun z => hN q (Nat.le_trans hS.1 z))) kV_X7_41 ⟨rfl, rfl⟩ ⟨Nat.le_of_ble_eq_true rfl, Nat.le_of_ble_eq_true rfl⟩ (hP.recv hC cM_0 rfl) rfl hl (Nat.le_of_ble_eq_true rfl) ⟨show 0 + 0 ≤ (0 : Nat) by omega, show 0 + 0 ≤ (0 : Nat) by omega⟩ dX7_buff_7 (fun H locs hB hS9 hz hk => ?_)
  have hS := hS9
  have hX : PM E c (nI 1) ly L ad H := hB
  obtain ⟨hP, hly, hLb, wfx, ex0, ex1, ex2⟩ := id hX
  refine lv_bif_ne (tgt := 38) hx hb dX7_buff_10 (by decide) (fun c_10 => ?_) (fun c_10 => ?_)
  · skip
    refine lv_iconstN hx hb 0 dX7_buff_38 (by decide) ?_
    exact mu_iret (x := nI 0) hx hb hr hlocks hS (hX) (by first | rfl | (simp [c_10]; done) | (simp [c_10]; omega) | (simp_all [c_10]; done)) dX7_buff_39
  · skip
    exact absurd (c_10.symm.trans rfl) (by decide)
set_option maxHeartbeats 4000000 in
set_option maxRecDepth 100000 in
theorem mX7_buff_b2 (l : Launch) {E : En} {c : Cy} {th : Int32} {ly : Ly} {L : List Nat} {ad : Nat → Nat → Nat} {H0 : Heap} (hX : PM E c th ly L ad H0) (i : Nat) (hi : i < c.R 10 0) (hc : c.I 0 0 < nI (ctbS c i)) : MuI l yX7_buff cX7_buff 5 .int (rmk 6 0 0 134) [.ref (ad 0 0), .int (nI i)] E H0 (nI 0) (fun H1 => PM E c (nI 2) ly L ad H1) (cA L H0) 0 0 := by
  obtain ⟨hP, hly, hLb, wf, eq0, eq1, eq2⟩ := id hX
  have wfx := wf
  refine ro_of (by decide) (Nat.le_of_ble_eq_true rfl) ?_
  intro p e s m below meth co ls hx hb hr hml hown hlocks hnm hC hU hl
  have hS : va_S (cA L H0) s.heap H0 [] := by rw [hU]; exact va_S.rf
  have hA : ∀ q, q ∈ L → cA L H0 q := fun q h => Or.inl h
  have hN : ∀ q, s.heap.size ≤ q → cA L H0 q := fun q h => Or.inr (by rw [← hU]; exact h)
  have hAb : ∀ q, cA L H0 q → bA E q := fun q h => h.elim (hLb q) (fun z => Nat.le_trans hC.2.2.2.1 (by rw [hU]; exact z))
  have hl : lv_has ls 5 [(0, .ref (ad 0 0)), (1, .int (nI i))] := hl
  have hi2 : i < c.R 11 0 := by have := wf.sw; omega
  refine lv_aload_n hx hb dX7_buff_0 rfl (lv_at hl 0 rfl) ?_
  refine lv_aload_n hx hb dX7_buff_1 rfl (lv_at hl 0 rfl) ?_
  refine lv_iload_n hx hb dX7_buff_2 rfl (lv_at hl 1 rfl) ?_
  refine ro_V (As := [.int (nI i)]) (h0 := ad 0 0) (rest := [.ref (ad 0 0)]) (v := bI (!isInS (nI i) (nI 0) (nI (c.R 10 0) - nI 1))) hx hb hml hown hC hS hAb (mX7_isNoWall l hX (nI i) ) kV_X7_56 ⟨rfl, rfl⟩ ⟨Nat.le_of_ble_eq_true rfl, Nat.le_of_ble_eq_true rfl⟩ (hP.recv hC cM_0 rfl) rfl hl (Nat.le_of_ble_eq_true rfl) ⟨show _ ≤ (0 : Nat) by omega, show _ ≤ (0 : Nat) by omega⟩ dX7_buff_3 ?_
  refine lv_iconstN hx hb 1 dX7_buff_6 (by decide) ?_
  rw [(by rw [isIn_t hi (by have := wf.sw; have := wf.sh'; have := wf.sl; have := wf.nw; have := wf.nh; have := wf.nl; omega)]; rfl : (!isInS (nI i) (nI 0) (nI (c.R 10 0) - nI 1)) = false)]
  refine mu_V (As := [.int (bI false), .int (nI 1)]) (h0 := ad 0 0) (rest := []) (v := bI false) hx hb hml hown hC hS hAb (mX7_start_f l hX 1 ) (fun q h => h.elim (hA q) (fun z => hN q (Nat.le_trans hS.1 z))) kV_X7_41 ⟨rfl, rfl⟩ ⟨Nat.le_of_ble_eq_true rfl, Nat.le_of_ble_eq_true rfl⟩ (hP.recv hC cM_0 rfl) rfl hl (Nat.le_of_ble_eq_true rfl) ⟨show 0 + 0 ≤ (0 : Nat) by omega, show 0 + 0 ≤ (0 : Nat) by omega⟩ dX7_buff_7 (fun H locs hB hS9 hz hk => ?_)
  have hS := hS9
  have hX : PM E c (nI 0) ly L ad H := hB
  obtain ⟨hP, hly, hLb, wfx, ex0, ex1, ex2⟩ := id hX
  refine lv_bif_ne (tgt := 38) hx hb dX7_buff_10 (by decide) (fun c_10 => ?_) (fun c_10 => ?_)
  · skip
    exact absurd (c_10.symm.trans rfl) (by decide)
  · skip
    refine lv_aload_n hx hb dX7_buff_13 rfl (lv_at hl 0 rfl) ?_
    refine lv_aload_n hx hb dX7_buff_14 rfl (lv_at hl 0 rfl) ?_
    refine lv_iload_n hx hb dX7_buff_15 rfl (lv_at hl 1 rfl) ?_
    refine ro_V (As := [.int (nI i)]) (h0 := ad 0 0) (rest := [.ref (ad 0 0)]) (v := nI (ctbS c i)) hx hb hml hown hC hS hAb (mX7_buffs l hX i (show i < c.R 11 0 by first | assumption | omega | decide | (simp only [decide_eq_false_iff_not, decide_eq_true_eq] at *; omega))) kV_X7_159 ⟨rfl, rfl⟩ ⟨Nat.le_of_ble_eq_true rfl, Nat.le_of_ble_eq_true rfl⟩ (hP.recv hC cM_0 rfl) rfl hl (Nat.le_of_ble_eq_true rfl) ⟨show _ ≤ (0 : Nat) by omega, show _ ≤ (0 : Nat) by omega⟩ dX7_buff_16 ?_
    refine lv_aload_n hx hb dX7_buff_19 rfl (lv_at hl 0 rfl) ?_
    refine pi_get hx hb hC hown hP fL_X7_9 0 0 cM_0 (v := .int (c.I 0 0)) rfl dX7_buff_20 ?_
    refine lv_icmp_le (tgt := 30) hx hb dX7_buff_23 (by decide) (fun c_23 => ?_) (fun c_23 => ?_)
    · skip
      have c_23 := Int32.not_lt.mpr c_23
      exact absurd hc c_23
    · skip
      have c_23 := Int32.not_le.mp c_23
      refine lv_iconstN hx hb 1 dX7_buff_26 (by decide) ?_
      refine lv_goto (tgt := 31) hx hb dX7_buff_27 (by decide) ?_
      refine lv_iconstN hx hb 2 dX7_buff_31 (by decide) ?_
      refine mu_V (As := [.int (nI 1), .int (nI 2)]) (h0 := ad 0 0) (rest := []) (v := bI true) hx hb hml hown hC hS hAb (mX7_refuse_t l hX 2 (show 1 ≤ 2 by first | assumption | omega | decide | (simp only [decide_eq_false_iff_not, decide_eq_true_eq] at *; omega)) (show 2 < 10 by first | assumption | omega | decide | (simp only [decide_eq_false_iff_not, decide_eq_true_eq] at *; omega))) (fun q h => h.elim (hA q) (fun z => hN q (Nat.le_trans hS.1 z))) kV_X7_29 ⟨rfl, rfl⟩ ⟨Nat.le_of_ble_eq_true rfl, Nat.le_of_ble_eq_true rfl⟩ (hP.recv hC cM_0 rfl) rfl hl (Nat.le_of_ble_eq_true rfl) ⟨show 0 + 0 ≤ (0 : Nat) by omega, show 0 + 0 ≤ (0 : Nat) by omega⟩ dX7_buff_32 (fun H locs hB hS9 hz hk => ?_)
      have hS := hS9
      have hX : PM E c (nI 2) ly L ad H := hB
      obtain ⟨hP, hly, hLb, wfx, ex0, ex1, ex2⟩ := id hX
      refine lv_bif_eq (tgt := 40) hx hb dX7_buff_35 (by decide) (fun c_35 => ?_) (fun c_35 => ?_)
      · skip
        exact absurd (c_35.symm.trans rfl) (by decide)
      · skip
        refine lv_iconstN hx hb 0 dX7_buff_38 (by decide) ?_
        exact mu_iret (x := nI 0) hx hb hr hlocks hS (hX) (by first | rfl | (simp [c_10, c_23, c_35]; done) | (simp [c_10, c_23, c_35]; omega) | (simp_all [c_10, c_23, c_35]; done)) dX7_buff_39
set_option maxHeartbeats 4000000 in
set_option maxRecDepth 100000 in
theorem mX7_sell_g (l : Launch) {E : En} {c : Cy} {th : Int32} {ly : Ly} {L : List Nat} {ad : Nat → Nat → Nat} {H0 : Heap} (hX : PM E c th ly L ad H0) (j : Nat) (hj : j < c.R 10 2) (hs : 0 < seenS c j) : MuI l yX7_sell cX7_sell 5 .int (rmk 5 1 4 113) [.ref (ad 0 0), .int (nI j)] E H0 (prS c j) (fun H1 => PM E (c.R, up2 c.I 1 0 (c.I 1 0 + prS c j), c.B, c.Wr, mk1 c.sh (c.R 6 j) (c.R 1 (c.R 6 j)) (shwB c (c.R 6 j) j)) (nI 0) ly L ad H1) (cA L H0) 1 4 := by
  obtain ⟨hP, hly, hLb, wf, eq0, eq1, eq2⟩ := id hX
  have wfx := wf
  refine ro_of (by decide) (Nat.le_of_ble_eq_true rfl) ?_
  intro p e s m below meth co ls hx hb hr hml hown hlocks hnm hC hU hl
  have hS : va_S (cA L H0) s.heap H0 [] := by rw [hU]; exact va_S.rf
  have hA : ∀ q, q ∈ L → cA L H0 q := fun q h => Or.inl h
  have hN : ∀ q, s.heap.size ≤ q → cA L H0 q := fun q h => Or.inr (by rw [← hU]; exact h)
  have hAb : ∀ q, cA L H0 q → bA E q := fun q h => h.elim (hLb q) (fun z => Nat.le_trans hC.2.2.2.1 (by rw [hU]; exact z))
  have hl : lv_has ls 5 [(0, .ref (ad 0 0)), (1, .int (nI j))] := hl
  have hj2 : j < c.R 11 2 := by have := wf.sl; omega
  have hw2 := wf.lw hj2
  have gw := wf.wd hw2
  have gl := wf.nl
  refine lv_aload_n hx hb dX7_sell_0 rfl (lv_at hl 0 rfl) ?_
  refine lv_aload_n hx hb dX7_sell_1 rfl (lv_at hl 0 rfl) ?_
  refine lv_iload_n hx hb dX7_sell_2 rfl (lv_at hl 1 rfl) ?_
  refine ro_V (As := [.int (nI j)]) (h0 := ad 0 0) (rest := [.ref (ad 0 0)]) (v := bI (!isInS (nI j) (nI 0) (nI (c.R 10 2) - nI 1))) hx hb hml hown hC hS hAb (mX7_isNoLayer l hX (nI j) ) kV_X7_203 ⟨rfl, rfl⟩ ⟨Nat.le_of_ble_eq_true rfl, Nat.le_of_ble_eq_true rfl⟩ (hP.recv hC cM_0 rfl) rfl hl (Nat.le_of_ble_eq_true rfl) ⟨show _ ≤ (1 : Nat) by omega, show _ ≤ (4 : Nat) by omega⟩ dX7_sell_3 ?_
  refine lv_iconstN hx hb 1 dX7_sell_6 (by decide) ?_
  rw [(by rw [isIn_t hj (by have := wf.sw; have := wf.sh'; have := wf.sl; have := wf.nw; have := wf.nh; have := wf.nl; omega)]; rfl : (!isInS (nI j) (nI 0) (nI (c.R 10 2) - nI 1)) = false)]
  refine mu_V (As := [.int (bI false), .int (nI 1)]) (h0 := ad 0 0) (rest := []) (v := bI false) hx hb hml hown hC hS hAb (mX7_start_f l hX 1 ) (fun q h => h.elim (hA q) (fun z => hN q (Nat.le_trans hS.1 z))) kV_X7_41 ⟨rfl, rfl⟩ ⟨Nat.le_of_ble_eq_true rfl, Nat.le_of_ble_eq_true rfl⟩ (hP.recv hC cM_0 rfl) rfl hl (Nat.le_of_ble_eq_true rfl) ⟨show 0 + 0 ≤ (1 : Nat) by omega, show 0 + 0 ≤ (4 : Nat) by omega⟩ dX7_sell_7 (fun H locs hB hS9 hz hk => ?_)
  have hS := hS9
  have hX : PM E c (nI 0) ly L ad H := hB
  obtain ⟨hP, hly, hLb, wfx, ex0, ex1, ex2⟩ := id hX
  refine lv_bif_ne (tgt := 34) hx hb dX7_sell_10 (by decide) (fun c_10 => ?_) (fun c_10 => ?_)
  · skip
    exact absurd (c_10.symm.trans rfl) (by decide)
  · skip
    refine lv_aload_n hx hb dX7_sell_13 rfl (lv_at hl 0 rfl) ?_
    refine lv_aload_n hx hb dX7_sell_14 rfl (lv_at hl 0 rfl) ?_
    refine lv_iload_n hx hb dX7_sell_15 rfl (lv_at hl 1 rfl) ?_
    refine ro_V (As := [.int (nI j)]) (h0 := ad 0 0) (rest := [.ref (ad 0 0)]) (v := nI (seenS c j)) hx hb hml hown hC hS hAb (mX7_seen l hX j (show j < c.R 11 2 by first | assumption | omega | decide | (simp only [decide_eq_false_iff_not, decide_eq_true_eq] at *; omega))) kV_X7_197 ⟨rfl, rfl⟩ ⟨Nat.le_of_ble_eq_true rfl, Nat.le_of_ble_eq_true rfl⟩ (hP.recv hC cM_0 rfl) rfl hl (Nat.le_of_ble_eq_true rfl) ⟨show _ ≤ (1 : Nat) by omega, show _ ≤ (4 : Nat) by omega⟩ dX7_sell_16 ?_
    have g_1 := seen_le wf (j := j) (by first | assumption | omega)
    refine lv_ifN_ne (tgt := 26) hx hb dX7_sell_19 (by decide) (by omega) (fun c_19 => ?_) (fun c_19 => ?_)
    · skip
      refine lv_iconstN hx hb 0 dX7_sell_26 (by decide) ?_
      refine lv_iconstN hx hb 2 dX7_sell_27 (by decide) ?_
      refine mu_V (As := [.int (nI 0), .int (nI 2)]) (h0 := ad 0 0) (rest := []) (v := bI false) hx hb hml hown hC hS hAb (mX7_refuse_f l hX 2 ) (fun q h => h.elim (hA q) (fun z => hN q (Nat.le_trans hS.1 z))) kV_X7_29 ⟨rfl, rfl⟩ ⟨Nat.le_of_ble_eq_true rfl, Nat.le_of_ble_eq_true rfl⟩ (hP.recv hC cM_0 rfl) rfl hl (Nat.le_of_ble_eq_true rfl) ⟨show 0 + 0 ≤ (1 : Nat) by omega, show 0 + 0 ≤ (4 : Nat) by omega⟩ dX7_sell_28 (fun H locs hB hS9 hz hk => ?_)
      have hS := hS9
      have hX : PM E c (nI 0) ly L ad H := hB
      obtain ⟨hP, hly, hLb, wfx, ex0, ex1, ex2⟩ := id hX
      refine lv_bif_eq (tgt := 36) hx hb dX7_sell_31 (by decide) (fun c_31 => ?_) (fun c_31 => ?_)
      · skip
        refine lv_aload_n hx hb dX7_sell_36 rfl (lv_at hl 0 rfl) ?_
        refine lv_iload_n hx hb dX7_sell_37 rfl (lv_at hl 1 rfl) ?_
        refine mu_V (As := [.int (nI j)]) (h0 := ad 0 0) (rest := []) (v := prS c j) hx hb hml hown hC hS hAb (mX7_price l hX j (show j < c.R 10 2 by first | assumption | omega | decide | (simp only [decide_eq_false_iff_not, decide_eq_true_eq] at *; omega))) (fun q h => h.elim (hA q) (fun z => hN q (Nat.le_trans hS.1 z))) kV_X7_206 ⟨rfl, rfl⟩ ⟨Nat.le_of_ble_eq_true rfl, Nat.le_of_ble_eq_true rfl⟩ (hP.recv hC cM_0 rfl) rfl hl (Nat.le_of_ble_eq_true rfl) ⟨show 0 + 1 ≤ (1 : Nat) by omega, show 0 + 4 ≤ (4 : Nat) by omega⟩ dX7_sell_38 (fun H locs hB hS9 hz hk => ?_)
        have hS := hS9
        have hX : PM E c (nI 0) ly L ad H := hB
        obtain ⟨hP, hly, hLb, wfx, ex0, ex1, ex2⟩ := id hX
        refine lv_istore_n (lv' := [(2, .int (prS c j)), (0, .ref (ad 0 0)), (1, .int (nI j))]) hx hb dX7_sell_41 rfl hl (by decide) rfl (fun ls hl => ?_)
        refine lv_aload_n hx hb dX7_sell_42 rfl (lv_at hl 1 rfl) ?_
        refine pi_get hx hb hC hown hP fL_X7_16 0 0 cM_0 (v := .ref (ad 1 0)) rfl dX7_sell_43 ?_
        refine lv_aload_n hx hb dX7_sell_46 rfl (lv_at hl 1 rfl) ?_
        refine pi_get hx hb hC hown hP fL_X7_23 0 0 cM_0 (v := .ref (ad 1 2)) rfl dX7_sell_47 ?_
        refine lv_iload_n hx hb dX7_sell_50 rfl (lv_at hl 2 rfl) ?_
        refine ro_VR (As := [.int (nI j)]) (h0 := ad 1 2) (rest := [.ref (ad 1 0)]) (v := some (ad 7 j)) hx hb hml hown hC hS hAb (mJ_get l hP 2 (cM_1 (by decide)) (fun h9 => cM_2 (by decide) h9) (hly 2 (by decide)) j (show j < c.R 10 2 by first | assumption | omega | decide | (simp only [decide_eq_false_iff_not, decide_eq_true_eq] at *; omega))) kV_X7_63 ⟨rfl, rfl⟩ ⟨Nat.le_of_ble_eq_true rfl, Nat.le_of_ble_eq_true rfl⟩ (hP.recv hC (cM_1 (i := 2) (by decide)) rfl) rfl hl (Nat.le_of_ble_eq_true rfl) ⟨show _ ≤ (1 : Nat) by omega, show _ ≤ (4 : Nat) by omega⟩ dX7_sell_51 ?_
        have hg_2 : j < c.R 11 2 := by have := wf.sl; omega
        refine pi_cast (nm := "") hx hb hC hown hP 7 j (cM_7 hg_2) rfl wCl_X7_85 dX7_sell_54 ?_
        refine pi_get hx hb hC hown hP fL_X7_174 7 j (cM_7 hg_2) (v := .int (nI (c.R 6 j))) rfl dX7_sell_57 ?_
        have g_3 : c.R 6 j < c.R 11 0 := wfx.lw hg_2
        refine ro_VR (As := [.int (nI (c.R 6 j))]) (h0 := ad 1 0) (rest := []) (v := some (ad 3 (c.R 6 j))) hx hb hml hown hC hS hAb (mJ_get l hP 0 (cM_1 (by decide)) (fun h9 => cM_2 (by decide) h9) (hly 0 (by decide)) (c.R 6 j) (show c.R 6 j < c.R 10 0 by first | assumption | omega | decide | (simp only [decide_eq_false_iff_not, decide_eq_true_eq] at *; omega))) kV_X7_63 ⟨rfl, rfl⟩ ⟨Nat.le_of_ble_eq_true rfl, Nat.le_of_ble_eq_true rfl⟩ (hP.recv hC (cM_1 (i := 0) (by decide)) rfl) rfl hl (Nat.le_of_ble_eq_true rfl) ⟨show _ ≤ (1 : Nat) by omega, show _ ≤ (4 : Nat) by omega⟩ dX7_sell_60 ?_
        have hg_4 : c.R 6 j < c.R 11 0 := by have := wf.sw; omega
        refine pi_cast (nm := "") hx hb hC hown hP 3 (c.R 6 j) (cM_3 hg_4) rfl wCl_X7_44 dX7_sell_63 ?_
        refine pi_get hx hb hC hown hP fL_X7_97 3 (c.R 6 j) (cM_3 hg_4) (v := .ref (ad 4 (c.R 6 j))) rfl dX7_sell_66 ?_
        have g_5 : 4 ≤ c.R 1 (c.R 6 j) ∧ c.R 1 (c.R 6 j) ≤ 16 := wfx.wd hg_4
        refine lv_astore_n (lv' := [(3, .ref (ad 4 (c.R 6 j))), (2, .int (prS c j)), (0, .ref (ad 0 0)), (1, .int (nI j))]) hx hb dX7_sell_69 rfl hl (by decide) rfl (fun ls hl => ?_)
        refine lv_iconstN hx hb 0 dX7_sell_70 (by decide) ?_
        refine lv_istore (lv' := [(4, .int (nI 0)), (3, .ref (ad 4 (c.R 6 j))), (2, .int (prS c j)), (0, .ref (ad 0 0)), (1, .int (nI j))]) hx hb dX7_sell_71 hl (by decide) rfl (fun ls hl => ?_)
        have lp73 : ∀ fu : Nat, ∀ (k : Nat), k ≤ c.R 1 (c.R 6 j) → c.R 1 (c.R 6 j) - k < fu → ∀ (H : Heap) (locs : List Loc), PM E (c.R, c.I, c.B, c.Wr, mk1 c.sh (c.R 6 j) k (shwB c (c.R 6 j) j)) (nI 0) ly L ad H → va_S (cA L H0) s.heap H locs → ∀ ls : Array Slot, lv_has ls 5 [(0, .ref (ad 0 0)), (1, .int (nI j)), (2, .int (prS c j)), (3, .ref (ad 4 (c.R 6 j))), (4, .int (nI k))] → W p l e (rmk 5 1 4 113) s m ([.ref (ad 0 0), .int (nI j)] : List Value).toArray below meth co H locs 1 4 (MQ below (QiM (prS c j) (fun H1 => PM E (c.R, up2 c.I 1 0 (c.I 1 0 + prS c j), c.B, c.Wr, mk1 c.sh (c.R 6 j) (c.R 1 (c.R 6 j)) (shwB c (c.R 6 j) j)) (nI 0) ly L ad H1) (cA L H0)) ([.ref (ad 0 0), .int (nI j)] : List Value).toArray s 1 4 (cA L H0)) (F0 m 73 ls []) := by
          intro fu
          induction fu with
          | zero => intro k hk hfu; exact absurd hfu (Nat.not_lt_zero _)
          | succ fu ih73 =>
            intro k hk hfu H locs hX hS ls hl
            obtain ⟨hP, hly, hLb, wfx, ex0, ex1, ex2⟩ := id hX
            refine lv_iload hx hb dX7_sell_73 (lv_at hl 4 rfl) ?_
            refine lv_aload_n hx hb dX7_sell_75 rfl (lv_at hl 3 rfl) ?_
            refine pi_alen (n := c.R 1 (c.R 6 j)) hx hb hC hP 4 (c.R 6 j) 0 rfl (cM_4 hg_4) dX7_sell_76 ?_
            have g_6 : 4 ≤ c.R 1 (c.R 6 j) ∧ c.R 1 (c.R 6 j) ≤ 16 := wfx.wd hg_4
            refine lv_icmpN_ge (tgt := 99) hx hb dX7_sell_77 (by decide) (by omega) (by omega) (fun c_77 => ?_) (fun c_77 => ?_)
            · skip
              refine lv_aload_n hx hb dX7_sell_99 rfl (lv_at hl 0 rfl) ?_
              refine lv_dup hx hb dX7_sell_100 rfl ?_
              refine pi_get hx hb hC hown hP fL_X7_209 0 0 cM_0 (v := .int (c.I 1 0)) rfl dX7_sell_101 ?_
              refine lv_iload_n hx hb dX7_sell_104 rfl (lv_at hl 2 rfl) ?_
              refine lv_iadd hx hb dX7_sell_105 ?_
              refine pwM_sold (R := c.R) (I := c.I) (B := c.B) (Wr := c.Wr) (S := mk1 c.sh (c.R 6 j) k (shwB c (c.R 6 j) j)) hx hb hC hown hX hS hA fP_X7_209 (v := (c.I 1 0) + (prS c j)) (WF.uI wfx (by decide)) dX7_sell_106 (fun H locs hX hS => ?_)
              obtain ⟨hP, hly, hLb, wfx, ex0, ex1, ex2⟩ := id hX
              refine lv_iload_n hx hb dX7_sell_109 rfl (lv_at hl 2 rfl) ?_
              exact mu_iret (x := prS c j) hx hb hr hlocks hS (by have z : k = c.R 1 (c.R 6 j) := (by omega); show PM _ _ _ _ _ _ _; rw [← z]; exact hX) (by first | rfl | (simp [c_10, c_19, c_31, c_77]; done) | (simp [c_10, c_19, c_31, c_77]; omega) | (simp_all [c_10, c_19, c_31, c_77]; done)) dX7_sell_110
            · skip
              refine lv_aload_n hx hb dX7_sell_80 rfl (lv_at hl 3 rfl) ?_
              refine lv_iload hx hb dX7_sell_81 (lv_at hl 4 rfl) ?_
              refine pi_iald (n := c.R 1 (c.R 6 j)) hx hb hC hP 4 (c.R 6 j) (cM_4 hg_4) (j := k) (by first | assumption | omega) (by omega) dX7_sell_83 ?_
              rcases d_83 : (mk1 c.sh (c.R 6 j) k (shwB c (c.R 6 j) j)) (c.R 6 j) k with _ | j_83
              · skip
                have sd_83 : shI (c.R, c.I, c.B, c.Wr, mk1 c.sh (c.R 6 j) k (shwB c (c.R 6 j) j)) (c.R 6 j) k = -1 := shI_n d_83
                rw [sd_83]
                refine lv_iload_n hx hb dX7_sell_84 rfl (lv_at hl 1 rfl) ?_
                refine lv_icmp_ne (tgt := 93) hx hb dX7_sell_85 (by decide) (fun c_85 => ?_) (fun c_85 => ?_)
                · skip
                  refine lv_iincN (v := 1) (lv' := [(4, .int (nI (k + 1))), (0, .ref (ad 0 0)), (1, .int (nI j)), (2, .int (prS c j)), (3, .ref (ad 4 (c.R 6 j)))]) hx hb dX7_sell_93 hl (k := 4) rfl (by decide) (by decide) rfl (fun ls hl => ?_)
                  refine lv_goto (tgt := 73) hx hb dX7_sell_96 (by decide) ?_
                  have esh : mk1 c.sh (c.R 6 j) k (shwB c (c.R 6 j) j) = mk1 c.sh (c.R 6 j) (k + 1) (shwB c (c.R 6 j) j) := by first | exact mk1_t (shw_t (mk1_at.symm.trans d_83) c_85) | exact mk1_f (shw_f (mk1_at.symm.trans d_83) c_85) | exact mk1_f (shw_n (mk1_at.symm.trans d_83))
                  have hX : PM E (c.R, c.I, c.B, c.Wr, mk1 c.sh (c.R 6 j) (k + 1) (shwB c (c.R 6 j) j)) (nI 0) ly L ad H := by rw [← esh]; exact hX
                  exact ih73 (k + 1) (by first | rfl | assumption | omega | (simp [c_10, c_19, c_31, c_77, d_83]; done) | (simp_all [c_10, c_19, c_31, c_77, d_83]; done)) (by omega) _ _ hX hS _ (lv_sub hl [1, 2, 3, 4, 0] rfl)
                · skip
                  exact absurd c_85 (fun z => nI_m1 (by omega) z.symm)
              · skip
                have sd_83 : shI (c.R, c.I, c.B, c.Wr, mk1 c.sh (c.R 6 j) k (shwB c (c.R 6 j) j)) (c.R 6 j) k = nI j_83 := shI_s d_83
                rw [sd_83]
                have hj_83 : j_83 < c.R 11 2 := wfx.sj hg_4 (by first | assumption | omega) d_83
                have g_7 := wf.nl
                refine lv_iload_n hx hb dX7_sell_84 rfl (lv_at hl 1 rfl) ?_
                refine lv_icmpN_ne (tgt := 93) hx hb dX7_sell_85 (by decide) (by omega) (by omega) (fun c_85 => ?_) (fun c_85 => ?_)
                · skip
                  refine lv_iincN (v := 1) (lv' := [(4, .int (nI (k + 1))), (0, .ref (ad 0 0)), (1, .int (nI j)), (2, .int (prS c j)), (3, .ref (ad 4 (c.R 6 j)))]) hx hb dX7_sell_93 hl (k := 4) rfl (by decide) (by decide) rfl (fun ls hl => ?_)
                  refine lv_goto (tgt := 73) hx hb dX7_sell_96 (by decide) ?_
                  have esh : mk1 c.sh (c.R 6 j) k (shwB c (c.R 6 j) j) = mk1 c.sh (c.R 6 j) (k + 1) (shwB c (c.R 6 j) j) := by first | exact mk1_t (shw_t (mk1_at.symm.trans d_83) c_85) | exact mk1_f (shw_f (mk1_at.symm.trans d_83) c_85) | exact mk1_f (shw_n (mk1_at.symm.trans d_83))
                  have hX : PM E (c.R, c.I, c.B, c.Wr, mk1 c.sh (c.R 6 j) (k + 1) (shwB c (c.R 6 j) j)) (nI 0) ly L ad H := by rw [← esh]; exact hX
                  exact ih73 (k + 1) (by first | rfl | assumption | omega | (simp [c_10, c_19, c_31, c_77, d_83, c_85]; done) | (simp_all [c_10, c_19, c_31, c_77, d_83, c_85]; done)) (by omega) _ _ hX hS _ (lv_sub hl [1, 2, 3, 4, 0] rfl)
                · skip
                  refine lv_aload_n hx hb dX7_sell_88 rfl (lv_at hl 3 rfl) ?_
                  refine lv_iload hx hb dX7_sell_89 (lv_at hl 4 rfl) ?_
                  refine lv_iconst (v := -1) hx hb dX7_sell_91 (by decide) ?_
                  refine pwM_shownN (R := c.R) (I := c.I) (B := c.B) (Wr := c.Wr) (S := mk1 c.sh (c.R 6 j) k (shwB c (c.R 6 j) j)) hx hb hC hX hS hA (c.R 6 j) hg_4 (y := k) (by first | assumption | omega) (by omega) (WF.uS wfx (fun _ z => by cases z)) dX7_sell_92 (fun H locs hX hS => ?_)
                  obtain ⟨hP, hly, hLb, wfx, ex0, ex1, ex2⟩ := id hX
                  refine lv_iincN (v := 1) (lv' := [(4, .int (nI (k + 1))), (0, .ref (ad 0 0)), (1, .int (nI j)), (2, .int (prS c j)), (3, .ref (ad 4 (c.R 6 j)))]) hx hb dX7_sell_93 hl (k := 4) rfl (by decide) (by decide) rfl (fun ls hl => ?_)
                  refine lv_goto (tgt := 73) hx hb dX7_sell_96 (by decide) ?_
                  have esh : up2 (mk1 c.sh (c.R 6 j) k (shwB c (c.R 6 j) j)) (c.R 6 j) k none = mk1 c.sh (c.R 6 j) (k + 1) (shwB c (c.R 6 j) j) := by first | exact mk1_t (shw_t (mk1_at.symm.trans d_83) c_85) | exact mk1_f (shw_f (mk1_at.symm.trans d_83) c_85) | exact mk1_f (shw_n (mk1_at.symm.trans d_83))
                  have hX : PM E (c.R, c.I, c.B, c.Wr, mk1 c.sh (c.R 6 j) (k + 1) (shwB c (c.R 6 j) j)) (nI 0) ly L ad H := by rw [← esh]; exact hX
                  exact ih73 (k + 1) (by first | rfl | assumption | omega | (simp [c_10, c_19, c_31, c_77, d_83, c_85]; done) | (simp_all [c_10, c_19, c_31, c_77, d_83, c_85]; done)) (by omega) _ _ hX hS _ (lv_sub hl [1, 2, 3, 4, 0] rfl)
        have esh : c.sh = mk1 c.sh (c.R 6 j) 0 (shwB c (c.R 6 j) j) := mk1_0.symm
        have hX : PM E (c.R, c.I, c.B, c.Wr, mk1 c.sh (c.R 6 j) 0 (shwB c (c.R 6 j) j)) (nI 0) ly L ad H := by rw [← esh]; exact hX
        exact lp73 (c.R 1 (c.R 6 j) - 0 + 1) 0 (by first | rfl | assumption | omega | (simp [c_10, c_19, c_31]; done) | (simp_all [c_10, c_19, c_31]; done)) (Nat.lt_succ_self _) _ _ hX hS _ (lv_sub hl [3, 4, 2, 1, 0] rfl)
      · skip
        exact absurd (c_31.symm.trans rfl) (by decide)
    · skip
      exact absurd c_19 (by omega)
set_option maxHeartbeats 4000000 in
set_option maxRecDepth 100000 in
theorem mX7_sell_b1 (l : Launch) {E : En} {c : Cy} {th : Int32} {ly : Ly} {L : List Nat} {ad : Nat → Nat → Nat} {H0 : Heap} (hX : PM E c th ly L ad H0) (v : Int32) (hv : isInS v (nI 0) (nI (c.R 10 2) - nI 1) = false) : MuI l yX7_sell cX7_sell 5 .int (rmk 2 0 0 44) [.ref (ad 0 0), .int v] E H0 (nI 0) (fun H1 => PM E c (nI 1) ly L ad H1) (cA L H0) 0 0 := by
  obtain ⟨hP, hly, hLb, wf, eq0, eq1, eq2⟩ := id hX
  have wfx := wf
  refine ro_of (by decide) (Nat.le_of_ble_eq_true rfl) ?_
  intro p e s m below meth co ls hx hb hr hml hown hlocks hnm hC hU hl
  have hS : va_S (cA L H0) s.heap H0 [] := by rw [hU]; exact va_S.rf
  have hA : ∀ q, q ∈ L → cA L H0 q := fun q h => Or.inl h
  have hN : ∀ q, s.heap.size ≤ q → cA L H0 q := fun q h => Or.inr (by rw [← hU]; exact h)
  have hAb : ∀ q, cA L H0 q → bA E q := fun q h => h.elim (hLb q) (fun z => Nat.le_trans hC.2.2.2.1 (by rw [hU]; exact z))
  have hl : lv_has ls 5 [(0, .ref (ad 0 0)), (1, .int v)] := hl
  refine lv_aload_n hx hb dX7_sell_0 rfl (lv_at hl 0 rfl) ?_
  refine lv_aload_n hx hb dX7_sell_1 rfl (lv_at hl 0 rfl) ?_
  refine lv_iload_n hx hb dX7_sell_2 rfl (lv_at hl 1 rfl) ?_
  refine ro_V (As := [.int v]) (h0 := ad 0 0) (rest := [.ref (ad 0 0)]) (v := bI (!isInS v (nI 0) (nI (c.R 10 2) - nI 1))) hx hb hml hown hC hS hAb (mX7_isNoLayer l hX v ) kV_X7_203 ⟨rfl, rfl⟩ ⟨Nat.le_of_ble_eq_true rfl, Nat.le_of_ble_eq_true rfl⟩ (hP.recv hC cM_0 rfl) rfl hl (Nat.le_of_ble_eq_true rfl) ⟨show _ ≤ (0 : Nat) by omega, show _ ≤ (0 : Nat) by omega⟩ dX7_sell_3 ?_
  refine lv_iconstN hx hb 1 dX7_sell_6 (by decide) ?_
  rw [(by rw [hv]; rfl : (!isInS v (nI 0) (nI (c.R 10 2) - nI 1)) = true)]
  refine mu_V (As := [.int (bI true), .int (nI 1)]) (h0 := ad 0 0) (rest := []) (v := bI true) hx hb hml hown hC hS hAb (mX7_start_t l hX 1 (show 1 ≤ 1 by first | assumption | omega | decide | (simp only [decide_eq_false_iff_not, decide_eq_true_eq] at *; omega)) (show 1 < 10 by first | assumption | omega | decide | (simp only [decide_eq_false_iff_not, decide_eq_true_eq] at *; omega))) (fun q h => h.elim (hA q) (fun z => hN q (Nat.le_trans hS.1 z))) kV_X7_41 ⟨rfl, rfl⟩ ⟨Nat.le_of_ble_eq_true rfl, Nat.le_of_ble_eq_true rfl⟩ (hP.recv hC cM_0 rfl) rfl hl (Nat.le_of_ble_eq_true rfl) ⟨show 0 + 0 ≤ (0 : Nat) by omega, show 0 + 0 ≤ (0 : Nat) by omega⟩ dX7_sell_7 (fun H locs hB hS9 hz hk => ?_)
  have hS := hS9
  have hX : PM E c (nI 1) ly L ad H := hB
  obtain ⟨hP, hly, hLb, wfx, ex0, ex1, ex2⟩ := id hX
  refine lv_bif_ne (tgt := 34) hx hb dX7_sell_10 (by decide) (fun c_10 => ?_) (fun c_10 => ?_)
  · skip
    refine lv_iconstN hx hb 0 dX7_sell_34 (by decide) ?_
    exact mu_iret (x := nI 0) hx hb hr hlocks hS (hX) (by first | rfl | (simp [c_10]; done) | (simp [c_10]; omega) | (simp_all [c_10]; done)) dX7_sell_35
  · skip
    exact absurd (c_10.symm.trans rfl) (by decide)
set_option maxHeartbeats 4000000 in
set_option maxRecDepth 100000 in
theorem mX7_sell_b2 (l : Launch) {E : En} {c : Cy} {th : Int32} {ly : Ly} {L : List Nat} {ad : Nat → Nat → Nat} {H0 : Heap} (hX : PM E c th ly L ad H0) (j : Nat) (hj : j < c.R 10 2) (hs : seenS c j = 0) : MuI l yX7_sell cX7_sell 5 .int (rmk 4 0 0 85) [.ref (ad 0 0), .int (nI j)] E H0 (nI 0) (fun H1 => PM E c (nI 2) ly L ad H1) (cA L H0) 0 0 := by
  obtain ⟨hP, hly, hLb, wf, eq0, eq1, eq2⟩ := id hX
  have wfx := wf
  refine ro_of (by decide) (Nat.le_of_ble_eq_true rfl) ?_
  intro p e s m below meth co ls hx hb hr hml hown hlocks hnm hC hU hl
  have hS : va_S (cA L H0) s.heap H0 [] := by rw [hU]; exact va_S.rf
  have hA : ∀ q, q ∈ L → cA L H0 q := fun q h => Or.inl h
  have hN : ∀ q, s.heap.size ≤ q → cA L H0 q := fun q h => Or.inr (by rw [← hU]; exact h)
  have hAb : ∀ q, cA L H0 q → bA E q := fun q h => h.elim (hLb q) (fun z => Nat.le_trans hC.2.2.2.1 (by rw [hU]; exact z))
  have hl : lv_has ls 5 [(0, .ref (ad 0 0)), (1, .int (nI j))] := hl
  refine lv_aload_n hx hb dX7_sell_0 rfl (lv_at hl 0 rfl) ?_
  refine lv_aload_n hx hb dX7_sell_1 rfl (lv_at hl 0 rfl) ?_
  refine lv_iload_n hx hb dX7_sell_2 rfl (lv_at hl 1 rfl) ?_
  refine ro_V (As := [.int (nI j)]) (h0 := ad 0 0) (rest := [.ref (ad 0 0)]) (v := bI (!isInS (nI j) (nI 0) (nI (c.R 10 2) - nI 1))) hx hb hml hown hC hS hAb (mX7_isNoLayer l hX (nI j) ) kV_X7_203 ⟨rfl, rfl⟩ ⟨Nat.le_of_ble_eq_true rfl, Nat.le_of_ble_eq_true rfl⟩ (hP.recv hC cM_0 rfl) rfl hl (Nat.le_of_ble_eq_true rfl) ⟨show _ ≤ (0 : Nat) by omega, show _ ≤ (0 : Nat) by omega⟩ dX7_sell_3 ?_
  refine lv_iconstN hx hb 1 dX7_sell_6 (by decide) ?_
  rw [(by rw [isIn_t hj (by have := wf.sw; have := wf.sh'; have := wf.sl; have := wf.nw; have := wf.nh; have := wf.nl; omega)]; rfl : (!isInS (nI j) (nI 0) (nI (c.R 10 2) - nI 1)) = false)]
  refine mu_V (As := [.int (bI false), .int (nI 1)]) (h0 := ad 0 0) (rest := []) (v := bI false) hx hb hml hown hC hS hAb (mX7_start_f l hX 1 ) (fun q h => h.elim (hA q) (fun z => hN q (Nat.le_trans hS.1 z))) kV_X7_41 ⟨rfl, rfl⟩ ⟨Nat.le_of_ble_eq_true rfl, Nat.le_of_ble_eq_true rfl⟩ (hP.recv hC cM_0 rfl) rfl hl (Nat.le_of_ble_eq_true rfl) ⟨show 0 + 0 ≤ (0 : Nat) by omega, show 0 + 0 ≤ (0 : Nat) by omega⟩ dX7_sell_7 (fun H locs hB hS9 hz hk => ?_)
  have hS := hS9
  have hX : PM E c (nI 0) ly L ad H := hB
  obtain ⟨hP, hly, hLb, wfx, ex0, ex1, ex2⟩ := id hX
  refine lv_bif_ne (tgt := 34) hx hb dX7_sell_10 (by decide) (fun c_10 => ?_) (fun c_10 => ?_)
  · skip
    exact absurd (c_10.symm.trans rfl) (by decide)
  · skip
    refine lv_aload_n hx hb dX7_sell_13 rfl (lv_at hl 0 rfl) ?_
    refine lv_aload_n hx hb dX7_sell_14 rfl (lv_at hl 0 rfl) ?_
    refine lv_iload_n hx hb dX7_sell_15 rfl (lv_at hl 1 rfl) ?_
    refine ro_V (As := [.int (nI j)]) (h0 := ad 0 0) (rest := [.ref (ad 0 0)]) (v := nI (seenS c j)) hx hb hml hown hC hS hAb (mX7_seen l hX j (show j < c.R 11 2 by first | assumption | omega | decide | (simp only [decide_eq_false_iff_not, decide_eq_true_eq] at *; omega))) kV_X7_197 ⟨rfl, rfl⟩ ⟨Nat.le_of_ble_eq_true rfl, Nat.le_of_ble_eq_true rfl⟩ (hP.recv hC cM_0 rfl) rfl hl (Nat.le_of_ble_eq_true rfl) ⟨show _ ≤ (0 : Nat) by omega, show _ ≤ (0 : Nat) by omega⟩ dX7_sell_16 ?_
    have g_1 := seen_le wf (j := j) (by first | assumption | omega)
    refine lv_ifN_ne (tgt := 26) hx hb dX7_sell_19 (by decide) (by omega) (fun c_19 => ?_) (fun c_19 => ?_)
    · skip
      exact absurd hs (by omega)
    · skip
      refine lv_iconstN hx hb 1 dX7_sell_22 (by decide) ?_
      refine lv_goto (tgt := 27) hx hb dX7_sell_23 (by decide) ?_
      refine lv_iconstN hx hb 2 dX7_sell_27 (by decide) ?_
      refine mu_V (As := [.int (nI 1), .int (nI 2)]) (h0 := ad 0 0) (rest := []) (v := bI true) hx hb hml hown hC hS hAb (mX7_refuse_t l hX 2 (show 1 ≤ 2 by first | assumption | omega | decide | (simp only [decide_eq_false_iff_not, decide_eq_true_eq] at *; omega)) (show 2 < 10 by first | assumption | omega | decide | (simp only [decide_eq_false_iff_not, decide_eq_true_eq] at *; omega))) (fun q h => h.elim (hA q) (fun z => hN q (Nat.le_trans hS.1 z))) kV_X7_29 ⟨rfl, rfl⟩ ⟨Nat.le_of_ble_eq_true rfl, Nat.le_of_ble_eq_true rfl⟩ (hP.recv hC cM_0 rfl) rfl hl (Nat.le_of_ble_eq_true rfl) ⟨show 0 + 0 ≤ (0 : Nat) by omega, show 0 + 0 ≤ (0 : Nat) by omega⟩ dX7_sell_28 (fun H locs hB hS9 hz hk => ?_)
      have hS := hS9
      have hX : PM E c (nI 2) ly L ad H := hB
      obtain ⟨hP, hly, hLb, wfx, ex0, ex1, ex2⟩ := id hX
      refine lv_bif_eq (tgt := 36) hx hb dX7_sell_31 (by decide) (fun c_31 => ?_) (fun c_31 => ?_)
      · skip
        exact absurd (c_31.symm.trans rfl) (by decide)
      · skip
        refine lv_iconstN hx hb 0 dX7_sell_34 (by decide) ?_
        exact mu_iret (x := nI 0) hx hb hr hlocks hS (hX) (by first | rfl | (simp [c_10, c_19, c_31]; done) | (simp [c_10, c_19, c_31]; omega) | (simp_all [c_10, c_19, c_31]; done)) dX7_sell_35
set_option maxHeartbeats 4000000 in
set_option maxRecDepth 100000 in
theorem mX7_clear_g (l : Launch) {E : En} {c : Cy} {th : Int32} {ly : Ly} {L : List Nat} {ad : Nat → Nat → Nat} {H0 : Heap} (hX : PM E c th ly L ad H0) (i : Nat) (hi : i < c.R 10 0) : MuI l yX7_clear cX7_clear 8 .int (rmk 3 0 0 64) [.ref (ad 0 0), .int (nI i)] E H0 (clT c i (c.R 1 i)) (fun H1 => PM E (c.R, clI c i (c.R 1 i), c.B, c.Wr, mk1 c.sh i (c.R 1 i) (fun _ => true)) (nI 0) ly L ad H1) (cA L H0) 0 0 := by
  obtain ⟨hP, hly, hLb, wf, eq0, eq1, eq2⟩ := id hX
  have wfx := wf
  refine ro_of (by decide) (Nat.le_of_ble_eq_true rfl) ?_
  intro p e s m below meth co ls hx hb hr hml hown hlocks hnm hC hU hl
  have hS : va_S (cA L H0) s.heap H0 [] := by rw [hU]; exact va_S.rf
  have hA : ∀ q, q ∈ L → cA L H0 q := fun q h => Or.inl h
  have hN : ∀ q, s.heap.size ≤ q → cA L H0 q := fun q h => Or.inr (by rw [← hU]; exact h)
  have hAb : ∀ q, cA L H0 q → bA E q := fun q h => h.elim (hLb q) (fun z => Nat.le_trans hC.2.2.2.1 (by rw [hU]; exact z))
  have hl : lv_has ls 8 [(0, .ref (ad 0 0)), (1, .int (nI i))] := hl
  have hi2 : i < c.R 11 0 := by have := wf.sw; omega
  have gw := wf.wd hi2
  have gl := wf.nl
  refine lv_aload_n hx hb dX7_clear_0 rfl (lv_at hl 0 rfl) ?_
  refine lv_aload_n hx hb dX7_clear_1 rfl (lv_at hl 0 rfl) ?_
  refine lv_iload_n hx hb dX7_clear_2 rfl (lv_at hl 1 rfl) ?_
  refine ro_V (As := [.int (nI i)]) (h0 := ad 0 0) (rest := [.ref (ad 0 0)]) (v := bI (!isInS (nI i) (nI 0) (nI (c.R 10 0) - nI 1))) hx hb hml hown hC hS hAb (mX7_isNoWall l hX (nI i) ) kV_X7_56 ⟨rfl, rfl⟩ ⟨Nat.le_of_ble_eq_true rfl, Nat.le_of_ble_eq_true rfl⟩ (hP.recv hC cM_0 rfl) rfl hl (Nat.le_of_ble_eq_true rfl) ⟨show _ ≤ (0 : Nat) by omega, show _ ≤ (0 : Nat) by omega⟩ dX7_clear_3 ?_
  refine lv_iconstN hx hb 1 dX7_clear_6 (by decide) ?_
  rw [(by rw [isIn_t hi (by have := wf.sw; have := wf.sh'; have := wf.sl; have := wf.nw; have := wf.nh; have := wf.nl; omega)]; rfl : (!isInS (nI i) (nI 0) (nI (c.R 10 0) - nI 1)) = false)]
  refine mu_V (As := [.int (bI false), .int (nI 1)]) (h0 := ad 0 0) (rest := []) (v := bI false) hx hb hml hown hC hS hAb (mX7_start_f l hX 1 ) (fun q h => h.elim (hA q) (fun z => hN q (Nat.le_trans hS.1 z))) kV_X7_41 ⟨rfl, rfl⟩ ⟨Nat.le_of_ble_eq_true rfl, Nat.le_of_ble_eq_true rfl⟩ (hP.recv hC cM_0 rfl) rfl hl (Nat.le_of_ble_eq_true rfl) ⟨show 0 + 0 ≤ (0 : Nat) by omega, show 0 + 0 ≤ (0 : Nat) by omega⟩ dX7_clear_7 (fun H locs hB hS9 hz hk => ?_)
  have hS := hS9
  have hX : PM E c (nI 0) ly L ad H := hB
  obtain ⟨hP, hly, hLb, wfx, ex0, ex1, ex2⟩ := id hX
  refine lv_bif_eq (tgt := 15) hx hb dX7_clear_10 (by decide) (fun c_10 => ?_) (fun c_10 => ?_)
  · skip
    refine lv_iconstN hx hb 0 dX7_clear_15 (by decide) ?_
    refine lv_istore_n (lv' := [(2, .int (nI 0)), (0, .ref (ad 0 0)), (1, .int (nI i))]) hx hb dX7_clear_16 rfl hl (by decide) rfl (fun ls hl => ?_)
    refine lv_aload_n hx hb dX7_clear_17 rfl (lv_at hl 1 rfl) ?_
    refine pi_get hx hb hC hown hP fL_X7_16 0 0 cM_0 (v := .ref (ad 1 0)) rfl dX7_clear_18 ?_
    refine lv_iload_n hx hb dX7_clear_21 rfl (lv_at hl 2 rfl) ?_
    refine ro_VR (As := [.int (nI i)]) (h0 := ad 1 0) (rest := []) (v := some (ad 3 i)) hx hb hml hown hC hS hAb (mJ_get l hP 0 (cM_1 (by decide)) (fun h9 => cM_2 (by decide) h9) (hly 0 (by decide)) i (show i < c.R 10 0 by first | assumption | omega | decide | (simp only [decide_eq_false_iff_not, decide_eq_true_eq] at *; omega))) kV_X7_63 ⟨rfl, rfl⟩ ⟨Nat.le_of_ble_eq_true rfl, Nat.le_of_ble_eq_true rfl⟩ (hP.recv hC (cM_1 (i := 0) (by decide)) rfl) rfl hl (Nat.le_of_ble_eq_true rfl) ⟨show _ ≤ (0 : Nat) by omega, show _ ≤ (0 : Nat) by omega⟩ dX7_clear_22 ?_
    have hg_1 : i < c.R 11 0 := by have := wf.sw; omega
    refine pi_cast (nm := "") hx hb hC hown hP 3 i (cM_3 hg_1) rfl wCl_X7_44 dX7_clear_25 ?_
    refine pi_get hx hb hC hown hP fL_X7_97 3 i (cM_3 hg_1) (v := .ref (ad 4 i)) rfl dX7_clear_28 ?_
    have g_2 : 4 ≤ c.R 1 i ∧ c.R 1 i ≤ 16 := wfx.wd hg_1
    refine lv_astore_n (lv' := [(3, .ref (ad 4 i)), (2, .int (nI 0)), (0, .ref (ad 0 0)), (1, .int (nI i))]) hx hb dX7_clear_31 rfl hl (by decide) rfl (fun ls hl => ?_)
    refine lv_aload_n hx hb dX7_clear_32 rfl (lv_at hl 0 rfl) ?_
    refine pi_alen (n := c.R 1 i) hx hb hC hP 4 i 0 rfl (cM_4 hg_1) dX7_clear_33 ?_
    have g_3 : 4 ≤ c.R 1 i ∧ c.R 1 i ≤ 16 := wfx.wd hg_1
    refine lv_istore (lv' := [(4, .int (nI (c.R 1 i))), (3, .ref (ad 4 i)), (2, .int (nI 0)), (0, .ref (ad 0 0)), (1, .int (nI i))]) hx hb dX7_clear_34 hl (by decide) rfl (fun ls hl => ?_)
    refine lv_iconstN hx hb 0 dX7_clear_36 (by decide) ?_
    refine lv_istore (lv' := [(5, .int (nI 0)), (4, .int (nI (c.R 1 i))), (3, .ref (ad 4 i)), (2, .int (nI 0)), (0, .ref (ad 0 0)), (1, .int (nI i))]) hx hb dX7_clear_37 hl (by decide) rfl (fun ls hl => ?_)
    have lp39 : ∀ fu : Nat, ∀ (k : Nat) (a : Int32), k ≤ c.R 1 i → a = clT c i k → c.R 1 i - k < fu → ∀ (H : Heap) (locs : List Loc), PM E (c.R, clI c i k, c.B, c.Wr, c.sh) (nI 0) ly L ad H → va_S (cA L H0) s.heap H locs → ∀ ls : Array Slot, lv_has ls 8 [(0, .ref (ad 0 0)), (1, .int (nI i)), (2, .int a), (3, .ref (ad 4 i)), (4, .int (nI (c.R 1 i))), (5, .int (nI k))] → W p l e (rmk 3 0 0 64) s m ([.ref (ad 0 0), .int (nI i)] : List Value).toArray below meth co H locs 0 0 (MQ below (QiM (clT c i (c.R 1 i)) (fun H1 => PM E (c.R, clI c i (c.R 1 i), c.B, c.Wr, mk1 c.sh i (c.R 1 i) (fun _ => true)) (nI 0) ly L ad H1) (cA L H0)) ([.ref (ad 0 0), .int (nI i)] : List Value).toArray s 0 0 (cA L H0)) (F0 m 39 ls []) := by
      intro fu
      induction fu with
      | zero => intro k a hk ha hfu; exact absurd hfu (Nat.not_lt_zero _)
      | succ fu ih39 =>
        intro k a hk ha hfu H locs hX hS ls hl
        obtain ⟨hP, hly, hLb, wfx, ex0, ex1, ex2⟩ := id hX
        refine lv_iload hx hb dX7_clear_39 (lv_at hl 5 rfl) ?_
        refine lv_iload hx hb dX7_clear_41 (lv_at hl 4 rfl) ?_
        refine lv_icmpN_ge (tgt := 157) hx hb dX7_clear_43 (by decide) (by omega) (by omega) (fun c_43 => ?_) (fun c_43 => ?_)
        · skip
          refine lv_aload_n hx hb dX7_clear_157 rfl (lv_at hl 0 rfl) ?_
          refine pi_get hx hb hC hown hP fL_X7_16 0 0 cM_0 (v := .ref (ad 1 0)) rfl dX7_clear_158 ?_
          refine lv_iload_n hx hb dX7_clear_161 rfl (lv_at hl 1 rfl) ?_
          refine ro_VR (As := [.int (nI i)]) (h0 := ad 1 0) (rest := []) (v := some (ad 3 i)) hx hb hml hown hC hS hAb (mJ_get l hP 0 (cM_1 (by decide)) (fun h9 => cM_2 (by decide) h9) (hly 0 (by decide)) i (show i < c.R 10 0 by first | assumption | omega | decide | (simp only [decide_eq_false_iff_not, decide_eq_true_eq] at *; omega))) kV_X7_63 ⟨rfl, rfl⟩ ⟨Nat.le_of_ble_eq_true rfl, Nat.le_of_ble_eq_true rfl⟩ (hP.recv hC (cM_1 (i := 0) (by decide)) rfl) rfl hl (Nat.le_of_ble_eq_true rfl) ⟨show _ ≤ (0 : Nat) by omega, show _ ≤ (0 : Nat) by omega⟩ dX7_clear_162 ?_
          have hg_4 : i < c.R 11 0 := by have := wf.sw; omega
          refine pi_cast (nm := "") hx hb hC hown hP 3 i (cM_3 hg_4) rfl wCl_X7_44 dX7_clear_165 ?_
          refine mu_V (As := []) (h0 := ad 3 i) (rest := []) (v := nI (cntN (pntB c i) (c.R 1 i))) hx hb hml hown hC hS hAb (mX6_bare l hX i hg_4) (fun q h => h.elim (hA q) (fun z => hN q (Nat.le_trans hS.1 z))) kV_X7_171 ⟨rfl, rfl⟩ ⟨Nat.le_of_ble_eq_true rfl, Nat.le_of_ble_eq_true rfl⟩ (hP.recv hC (cM_3 hg_4) rfl) rfl hl (Nat.le_of_ble_eq_true rfl) ⟨show 0 + 0 ≤ (0 : Nat) by omega, show 0 + 0 ≤ (0 : Nat) by omega⟩ dX7_clear_168 (fun H locs hB hS9 hz hk => ?_)
          have hS := hS9
          have hX : PM E (c.R, clI c i k, c.B, c.Wr, mk1 c.sh i (c.R 1 i) (fun _ => true)) (nI 0) ly L ad H := hB
          obtain ⟨hP, hly, hLb, wfx, ex0, ex1, ex2⟩ := id hX
          refine lv_pop hx hb dX7_clear_171 rfl ?_
          refine lv_iload_n hx hb dX7_clear_172 rfl (lv_at hl 2 rfl) ?_
          exact mu_iret (x := a) hx hb hr hlocks hS (by have z : k = c.R 1 i := (by omega); have e1 : clI c i k = clI c i (c.R 1 i) := (by rw [z]); show PM _ (_, clI c i (c.R 1 i), _, _, _) _ _ _ _ _; rw [← e1]; exact hX) (by rw [ha, show k = c.R 1 i by omega]) dX7_clear_173
        · skip
          refine lv_aload_n hx hb dX7_clear_46 rfl (lv_at hl 3 rfl) ?_
          refine lv_iload hx hb dX7_clear_47 (lv_at hl 5 rfl) ?_
          refine pi_iald (n := c.R 1 i) hx hb hC hP 4 i (cM_4 hg_1) (j := k) (by first | assumption | omega) (by omega) dX7_clear_49 ?_
          rcases d_49 : c.sh i k with _ | j_49
          · skip
            have sd_49 : shI (c.R, clI c i k, c.B, c.Wr, c.sh) i k = -1 := shI_n d_49
            rw [sd_49]
            refine lv_istore (lv' := [(6, .int (-1)), (0, .ref (ad 0 0)), (1, .int (nI i)), (2, .int a), (3, .ref (ad 4 i)), (4, .int (nI (c.R 1 i))), (5, .int (nI k))]) hx hb dX7_clear_50 hl (by decide) rfl (fun ls hl => ?_)
            refine lv_iload hx hb dX7_clear_52 (lv_at hl 0 rfl) ?_
            refine lv_iconst (v := -1) hx hb dX7_clear_54 (by decide) ?_
            refine lv_icmp_ne (tgt := 61) hx hb dX7_clear_55 (by decide) (fun c_55 => ?_) (fun c_55 => ?_)
            · skip
              exact absurd rfl c_55
            · skip
              refine lv_goto (tgt := 151) hx hb dX7_clear_58 (by decide) ?_
              refine lv_iincN (v := 1) (lv' := [(5, .int (nI (k + 1))), (6, .int (-1)), (0, .ref (ad 0 0)), (1, .int (nI i)), (2, .int a), (3, .ref (ad 4 i)), (4, .int (nI (c.R 1 i)))]) hx hb dX7_clear_151 hl (k := 6) rfl (by decide) (by decide) rfl (fun ls hl => ?_)
              refine lv_goto (tgt := 39) hx hb dX7_clear_154 (by decide) ?_
              have eI : clI c i k = clI c i (k + 1) := by first | exact clI_n d_49 | exact clI_f d_49 (by simp [hrS, c_10, c_43, d_49]) | exact clI_t d_49 (by simp [hrS, c_10, c_43, d_49])
              have hX : PM E (c.R, clI c i (k + 1), c.B, c.Wr, c.sh) (nI 0) ly L ad H := by rw [← eI]; exact hX
              exact ih39 (k + 1) a (by first | rfl | assumption | omega | (simp [c_10, c_43, d_49]; done) | (simp_all [c_10, c_43, d_49]; done)) (by rw [ha]; first | exact clT_n d_49 | exact clT_f d_49 (by simp [hrS, c_10, c_43, d_49]) | exact clT_t d_49 (by simp [hrS, c_10, c_43, d_49])) (by omega) _ _ hX hS _ (lv_sub hl [2, 3, 4, 5, 6, 0] rfl)
          · skip
            have sd_49 : shI (c.R, clI c i k, c.B, c.Wr, c.sh) i k = nI j_49 := shI_s d_49
            rw [sd_49]
            have hj_49 : j_49 < c.R 11 2 := wfx.sj hg_1 (by first | assumption | omega) d_49
            have g_5 := wf.nl
            refine lv_istore (lv' := [(6, .int (nI j_49)), (0, .ref (ad 0 0)), (1, .int (nI i)), (2, .int a), (3, .ref (ad 4 i)), (4, .int (nI (c.R 1 i))), (5, .int (nI k))]) hx hb dX7_clear_50 hl (by decide) rfl (fun ls hl => ?_)
            refine lv_iload hx hb dX7_clear_52 (lv_at hl 0 rfl) ?_
            refine lv_iconst (v := -1) hx hb dX7_clear_54 (by decide) ?_
            refine lv_icmp_ne (tgt := 61) hx hb dX7_clear_55 (by decide) (fun c_55 => ?_) (fun c_55 => ?_)
            · skip
              refine lv_aload_n hx hb dX7_clear_61 rfl (lv_at hl 1 rfl) ?_
              refine pi_get hx hb hC hown hP fL_X7_23 0 0 cM_0 (v := .ref (ad 1 2)) rfl dX7_clear_62 ?_
              refine lv_iload hx hb dX7_clear_65 (lv_at hl 0 rfl) ?_
              refine ro_VR (As := [.int (nI j_49)]) (h0 := ad 1 2) (rest := []) (v := some (ad 7 j_49)) hx hb hml hown hC hS hAb (mJ_get l hP 2 (cM_1 (by decide)) (fun h9 => cM_2 (by decide) h9) (hly 2 (by decide)) j_49 (show j_49 < c.R 10 2 by first | assumption | omega | decide | (simp only [decide_eq_false_iff_not, decide_eq_true_eq] at *; omega))) kV_X7_63 ⟨rfl, rfl⟩ ⟨Nat.le_of_ble_eq_true rfl, Nat.le_of_ble_eq_true rfl⟩ (hP.recv hC (cM_1 (i := 2) (by decide)) rfl) rfl hl (Nat.le_of_ble_eq_true rfl) ⟨show _ ≤ (0 : Nat) by omega, show _ ≤ (0 : Nat) by omega⟩ dX7_clear_67 ?_
              have hg_6 : j_49 < c.R 11 2 := by have := wf.sl; omega
              refine pi_cast (nm := "") hx hb hC hown hP 7 j_49 (cM_7 hg_6) rfl wCl_X7_85 dX7_clear_70 ?_
              refine lv_astore (lv' := [(7, .ref (ad 7 j_49)), (6, .int (nI j_49)), (0, .ref (ad 0 0)), (1, .int (nI i)), (2, .int a), (3, .ref (ad 4 i)), (4, .int (nI (c.R 1 i))), (5, .int (nI k))]) hx hb dX7_clear_73 hl (by decide) rfl (fun ls hl => ?_)
              refine lv_aload hx hb dX7_clear_75 (lv_at hl 0 rfl) ?_
              refine pi_get hx hb hC hown hP fL_X7_154 7 j_49 (cM_7 hg_6) (v := .int (bI (c.B 1 j_49))) rfl dX7_clear_77 ?_
              refine lv_bif_eq (tgt := 151) hx hb dX7_clear_80 (by decide) (fun c_80 => ?_) (fun c_80 => ?_)
              · skip
                refine lv_iincN (v := 1) (lv' := [(5, .int (nI (k + 1))), (7, .ref (ad 7 j_49)), (6, .int (nI j_49)), (0, .ref (ad 0 0)), (1, .int (nI i)), (2, .int a), (3, .ref (ad 4 i)), (4, .int (nI (c.R 1 i)))]) hx hb dX7_clear_151 hl (k := 7) rfl (by decide) (by decide) rfl (fun ls hl => ?_)
                refine lv_goto (tgt := 39) hx hb dX7_clear_154 (by decide) ?_
                have eI : clI c i k = clI c i (k + 1) := by first | exact clI_n d_49 | exact clI_f d_49 (by simp [hrS, c_10, c_43, d_49, c_80]) | exact clI_t d_49 (by simp [hrS, c_10, c_43, d_49, c_80])
                have hX : PM E (c.R, clI c i (k + 1), c.B, c.Wr, c.sh) (nI 0) ly L ad H := by rw [← eI]; exact hX
                exact ih39 (k + 1) a (by first | rfl | assumption | omega | (simp [c_10, c_43, d_49, c_80]; done) | (simp_all [c_10, c_43, d_49, c_80]; done)) (by rw [ha]; first | exact clT_n d_49 | exact clT_f d_49 (by simp [hrS, c_10, c_43, d_49, c_80]) | exact clT_t d_49 (by simp [hrS, c_10, c_43, d_49, c_80])) (by omega) _ _ hX hS _ (lv_sub hl [3, 4, 5, 6, 7, 0] rfl)
              · skip
                refine lv_aload hx hb dX7_clear_83 (lv_at hl 0 rfl) ?_
                refine pi_get hx hb hC hown hP fL_X7_93 7 j_49 (cM_7 hg_6) (v := .int (nI (c.R 9 j_49))) rfl dX7_clear_85 ?_
                have g_7 : c.R 9 j_49 < 4 := wfx.lk hg_6
                refine lv_iconstN hx hb 2 dX7_clear_88 (by decide) ?_
                refine lv_icmpN_lt (tgt := 151) hx hb dX7_clear_89 (by decide) (by omega) (by omega) (fun c_89 => ?_) (fun c_89 => ?_)
                · skip
                  refine lv_iincN (v := 1) (lv' := [(5, .int (nI (k + 1))), (7, .ref (ad 7 j_49)), (6, .int (nI j_49)), (0, .ref (ad 0 0)), (1, .int (nI i)), (2, .int a), (3, .ref (ad 4 i)), (4, .int (nI (c.R 1 i)))]) hx hb dX7_clear_151 hl (k := 7) rfl (by decide) (by decide) rfl (fun ls hl => ?_)
                  refine lv_goto (tgt := 39) hx hb dX7_clear_154 (by decide) ?_
                  have eI : clI c i k = clI c i (k + 1) := by first | exact clI_n d_49 | exact clI_f d_49 (by simp [hrS, c_10, c_43, d_49, c_80, c_89]) | exact clI_t d_49 (by simp [hrS, c_10, c_43, d_49, c_80, c_89])
                  have hX : PM E (c.R, clI c i (k + 1), c.B, c.Wr, c.sh) (nI 0) ly L ad H := by rw [← eI]; exact hX
                  exact ih39 (k + 1) a (by first | rfl | assumption | omega | (simp [c_10, c_43, d_49, c_80, c_89]; done) | (simp_all [c_10, c_43, d_49, c_80, c_89]; done)) (by rw [ha]; first | exact clT_n d_49 | exact clT_f d_49 (by simp [hrS, c_10, c_43, d_49, c_80, c_89]) | exact clT_t d_49 (by simp [hrS, c_10, c_43, d_49, c_80, c_89])) (by omega) _ _ hX hS _ (lv_sub hl [3, 4, 5, 6, 7, 0] rfl)
                · skip
                  refine lv_aload hx hb dX7_clear_92 (lv_at hl 0 rfl) ?_
                  refine pi_get hx hb hC hown hP fL_X7_162 7 j_49 (cM_7 hg_6) (v := .int (bI (c.B 2 j_49))) rfl dX7_clear_94 ?_
                  refine lv_bif_eq (tgt := 103) hx hb dX7_clear_97 (by decide) (fun c_97 => ?_) (fun c_97 => ?_)
                  · skip
                    refine lv_iload_n hx hb dX7_clear_103 rfl (lv_at hl 4 rfl) ?_
                    refine lv_iconstN hx hb 5 dX7_clear_104 (by decide) ?_
                    refine gt_get hx hb hC.2.2.1.2.2.1 hS hAb hown (hC.2.1.at (w := .fieldLink "WallcodeModel" 165 "WallcodeModel" "WEIGHTS" "[I") (List.mem_append_right _ (List.mem_of_getElem? (i := 1092) (by decide +kernel))) (by decide +kernel) _) dX7_clear_105 ?_
                    refine lv_aload hx hb dX7_clear_108 (lv_at hl 0 rfl) ?_
                    refine pi_get hx hb hC hown hP fL_X7_93 7 j_49 (cM_7 hg_6) (v := .int (nI (c.R 9 j_49))) rfl dX7_clear_110 ?_
                    refine gt_ld hx hb hC.2.2.1.2.2.1 hS hAb (j := c.R 9 j_49) (by omega) dX7_clear_113 ?_
                    refine lv_imul hx hb dX7_clear_114 ?_
                    refine lv_iadd hx hb dX7_clear_115 ?_
                    refine lv_istore_n (lv' := [(2, .int (a + ((nI 5) * (wtf (c.R 9 j_49))))), (7, .ref (ad 7 j_49)), (6, .int (nI j_49)), (0, .ref (ad 0 0)), (1, .int (nI i)), (3, .ref (ad 4 i)), (4, .int (nI (c.R 1 i))), (5, .int (nI k))]) hx hb dX7_clear_116 rfl hl (by decide) rfl (fun ls hl => ?_)
                    refine lv_aload_n hx hb dX7_clear_117 rfl (lv_at hl 3 rfl) ?_
                    refine pi_get hx hb hC hown hP fL_X7_20 0 0 cM_0 (v := .ref (ad 1 1)) rfl dX7_clear_118 ?_
                    refine lv_aload hx hb dX7_clear_121 (lv_at hl 1 rfl) ?_
                    refine pi_get hx hb hC hown hP fL_X7_84 7 j_49 (cM_7 hg_6) (v := .int (nI (c.R 5 j_49))) rfl dX7_clear_123 ?_
                    have g_8 : c.R 5 j_49 < c.R 11 1 := wfx.lh hg_6
                    refine ro_VR (As := [.int (nI (c.R 5 j_49))]) (h0 := ad 1 1) (rest := []) (v := some (ad 5 (c.R 5 j_49))) hx hb hml hown hC hS hAb (mJ_get l hP 1 (cM_1 (by decide)) (fun h9 => cM_2 (by decide) h9) (hly 1 (by decide)) (c.R 5 j_49) (show c.R 5 j_49 < c.R 10 1 by first | assumption | omega | decide | (simp only [decide_eq_false_iff_not, decide_eq_true_eq] at *; omega))) kV_X7_63 ⟨rfl, rfl⟩ ⟨Nat.le_of_ble_eq_true rfl, Nat.le_of_ble_eq_true rfl⟩ (hP.recv hC (cM_1 (i := 1) (by decide)) rfl) rfl hl (Nat.le_of_ble_eq_true rfl) ⟨show _ ≤ (0 : Nat) by omega, show _ ≤ (0 : Nat) by omega⟩ dX7_clear_126 ?_
                    have hg_9 : c.R 5 j_49 < c.R 11 1 := by have := wf.sh'; omega
                    refine pi_cast (nm := "") hx hb hC hown hP 5 (c.R 5 j_49) (cM_5 hg_9) rfl wCl_X7_53 dX7_clear_129 ?_
                    refine lv_dup hx hb dX7_clear_132 rfl ?_
                    refine pi_get hx hb hC hown hP fL_X7_168 5 (c.R 5 j_49) (cM_5 hg_9) (v := .int ((clI c i k) 14 (c.R 5 j_49))) rfl dX7_clear_133 ?_
                    refine lv_iconstN hx hb 5 dX7_clear_136 (by decide) ?_
                    refine gt_get hx hb hC.2.2.1.2.2.1 hS hAb hown (hC.2.1.at (w := .fieldLink "WallcodeModel" 165 "WallcodeModel" "WEIGHTS" "[I") (List.mem_append_right _ (List.mem_of_getElem? (i := 1092) (by decide +kernel))) (by decide +kernel) _) dX7_clear_137 ?_
                    refine lv_aload hx hb dX7_clear_140 (lv_at hl 1 rfl) ?_
                    refine pi_get hx hb hC hown hP fL_X7_93 7 j_49 (cM_7 hg_6) (v := .int (nI (c.R 9 j_49))) rfl dX7_clear_142 ?_
                    refine gt_ld hx hb hC.2.2.1.2.2.1 hS hAb (j := c.R 9 j_49) (by omega) dX7_clear_145 ?_
                    refine lv_imul hx hb dX7_clear_146 ?_
                    refine lv_iadd hx hb dX7_clear_147 ?_
                    refine pwM_owed (R := c.R) (I := clI c i k) (B := c.B) (Wr := c.Wr) (S := c.sh) hx hb hC hown hX hS hA fP_X7_168 (c.R 5 j_49) hg_9 (v := ((clI c i k) 14 (c.R 5 j_49)) + ((nI 5) * (wtf (c.R 9 j_49)))) (WF.uI wfx (by decide)) dX7_clear_148 (fun H locs hX hS => ?_)
                    obtain ⟨hP, hly, hLb, wfx, ex0, ex1, ex2⟩ := id hX
                    refine lv_iincN (v := 1) (lv' := [(5, .int (nI (k + 1))), (2, .int (a + ((nI 5) * (wtf (c.R 9 j_49))))), (7, .ref (ad 7 j_49)), (6, .int (nI j_49)), (0, .ref (ad 0 0)), (1, .int (nI i)), (3, .ref (ad 4 i)), (4, .int (nI (c.R 1 i)))]) hx hb dX7_clear_151 hl (k := 7) rfl (by decide) (by decide) rfl (fun ls hl => ?_)
                    refine lv_goto (tgt := 39) hx hb dX7_clear_154 (by decide) ?_
                    have eI : up2 (clI c i k) 14 (c.R 5 j_49) (((clI c i k) 14 (c.R 5 j_49)) + ((nI 5) * (wtf (c.R 9 j_49)))) = clI c i (k + 1) := by first | exact clI_n d_49 | exact clI_f d_49 (by simp [hrS, c_10, c_43, d_49, c_80, c_89, c_97]) | exact clI_t d_49 (by simp [hrS, c_10, c_43, d_49, c_80, c_89, c_97])
                    have hX : PM E (c.R, clI c i (k + 1), c.B, c.Wr, c.sh) (nI 0) ly L ad H := by rw [← eI]; exact hX
                    exact ih39 (k + 1) (a + ((nI 5) * (wtf (c.R 9 j_49)))) (by first | rfl | assumption | omega | (simp [c_10, c_43, d_49, c_80, c_89, c_97]; done) | (simp_all [c_10, c_43, d_49, c_80, c_89, c_97]; done)) (by rw [ha]; first | exact clT_n d_49 | exact clT_f d_49 (by simp [hrS, c_10, c_43, d_49, c_80, c_89, c_97]) | exact clT_t d_49 (by simp [hrS, c_10, c_43, d_49, c_80, c_89, c_97])) (by omega) _ _ hX hS _ (lv_sub hl [4, 5, 1, 6, 7, 0] rfl)
                  · skip
                    refine lv_goto (tgt := 151) hx hb dX7_clear_100 (by decide) ?_
                    refine lv_iincN (v := 1) (lv' := [(5, .int (nI (k + 1))), (7, .ref (ad 7 j_49)), (6, .int (nI j_49)), (0, .ref (ad 0 0)), (1, .int (nI i)), (2, .int a), (3, .ref (ad 4 i)), (4, .int (nI (c.R 1 i)))]) hx hb dX7_clear_151 hl (k := 7) rfl (by decide) (by decide) rfl (fun ls hl => ?_)
                    refine lv_goto (tgt := 39) hx hb dX7_clear_154 (by decide) ?_
                    have eI : clI c i k = clI c i (k + 1) := by first | exact clI_n d_49 | exact clI_f d_49 (by simp [hrS, c_10, c_43, d_49, c_80, c_89, c_97]) | exact clI_t d_49 (by simp [hrS, c_10, c_43, d_49, c_80, c_89, c_97])
                    have hX : PM E (c.R, clI c i (k + 1), c.B, c.Wr, c.sh) (nI 0) ly L ad H := by rw [← eI]; exact hX
                    exact ih39 (k + 1) a (by first | rfl | assumption | omega | (simp [c_10, c_43, d_49, c_80, c_89, c_97]; done) | (simp_all [c_10, c_43, d_49, c_80, c_89, c_97]; done)) (by rw [ha]; first | exact clT_n d_49 | exact clT_f d_49 (by simp [hrS, c_10, c_43, d_49, c_80, c_89, c_97]) | exact clT_t d_49 (by simp [hrS, c_10, c_43, d_49, c_80, c_89, c_97])) (by omega) _ _ hX hS _ (lv_sub hl [3, 4, 5, 6, 7, 0] rfl)
            · skip
              exact absurd c_55 (nI_m1 (by omega))
    have eI : c.I = clI c i 0 := rfl
    have hX : PM E (c.R, clI c i 0, c.B, c.Wr, c.sh) (nI 0) ly L ad H := by rw [← eI]; exact hX
    exact lp39 (c.R 1 i - 0 + 1) 0 (nI 0) (by first | rfl | assumption | omega | (simp [c_10]; done) | (simp_all [c_10]; done)) (rfl) (Nat.lt_succ_self _) _ _ hX hS _ (lv_sub hl [4, 5, 3, 2, 1, 0] rfl)
  · skip
    exact absurd (c_10.symm.trans rfl) (by decide)
set_option maxHeartbeats 4000000 in
set_option maxRecDepth 100000 in
theorem mX7_clear_b1 (l : Launch) {E : En} {c : Cy} {th : Int32} {ly : Ly} {L : List Nat} {ad : Nat → Nat → Nat} {H0 : Heap} (hX : PM E c th ly L ad H0) (v : Int32) (hv : isInS v (nI 0) (nI (c.R 10 0) - nI 1) = false) : MuI l yX7_clear cX7_clear 8 .int (rmk 2 0 0 44) [.ref (ad 0 0), .int v] E H0 (nI 0) (fun H1 => PM E c (nI 1) ly L ad H1) (cA L H0) 0 0 := by
  obtain ⟨hP, hly, hLb, wf, eq0, eq1, eq2⟩ := id hX
  have wfx := wf
  refine ro_of (by decide) (Nat.le_of_ble_eq_true rfl) ?_
  intro p e s m below meth co ls hx hb hr hml hown hlocks hnm hC hU hl
  have hS : va_S (cA L H0) s.heap H0 [] := by rw [hU]; exact va_S.rf
  have hA : ∀ q, q ∈ L → cA L H0 q := fun q h => Or.inl h
  have hN : ∀ q, s.heap.size ≤ q → cA L H0 q := fun q h => Or.inr (by rw [← hU]; exact h)
  have hAb : ∀ q, cA L H0 q → bA E q := fun q h => h.elim (hLb q) (fun z => Nat.le_trans hC.2.2.2.1 (by rw [hU]; exact z))
  have hl : lv_has ls 8 [(0, .ref (ad 0 0)), (1, .int v)] := hl
  refine lv_aload_n hx hb dX7_clear_0 rfl (lv_at hl 0 rfl) ?_
  refine lv_aload_n hx hb dX7_clear_1 rfl (lv_at hl 0 rfl) ?_
  refine lv_iload_n hx hb dX7_clear_2 rfl (lv_at hl 1 rfl) ?_
  refine ro_V (As := [.int v]) (h0 := ad 0 0) (rest := [.ref (ad 0 0)]) (v := bI (!isInS v (nI 0) (nI (c.R 10 0) - nI 1))) hx hb hml hown hC hS hAb (mX7_isNoWall l hX v ) kV_X7_56 ⟨rfl, rfl⟩ ⟨Nat.le_of_ble_eq_true rfl, Nat.le_of_ble_eq_true rfl⟩ (hP.recv hC cM_0 rfl) rfl hl (Nat.le_of_ble_eq_true rfl) ⟨show _ ≤ (0 : Nat) by omega, show _ ≤ (0 : Nat) by omega⟩ dX7_clear_3 ?_
  refine lv_iconstN hx hb 1 dX7_clear_6 (by decide) ?_
  rw [(by rw [hv]; rfl : (!isInS v (nI 0) (nI (c.R 10 0) - nI 1)) = true)]
  refine mu_V (As := [.int (bI true), .int (nI 1)]) (h0 := ad 0 0) (rest := []) (v := bI true) hx hb hml hown hC hS hAb (mX7_start_t l hX 1 (show 1 ≤ 1 by first | assumption | omega | decide | (simp only [decide_eq_false_iff_not, decide_eq_true_eq] at *; omega)) (show 1 < 10 by first | assumption | omega | decide | (simp only [decide_eq_false_iff_not, decide_eq_true_eq] at *; omega))) (fun q h => h.elim (hA q) (fun z => hN q (Nat.le_trans hS.1 z))) kV_X7_41 ⟨rfl, rfl⟩ ⟨Nat.le_of_ble_eq_true rfl, Nat.le_of_ble_eq_true rfl⟩ (hP.recv hC cM_0 rfl) rfl hl (Nat.le_of_ble_eq_true rfl) ⟨show 0 + 0 ≤ (0 : Nat) by omega, show 0 + 0 ≤ (0 : Nat) by omega⟩ dX7_clear_7 (fun H locs hB hS9 hz hk => ?_)
  have hS := hS9
  have hX : PM E c (nI 1) ly L ad H := hB
  obtain ⟨hP, hly, hLb, wfx, ex0, ex1, ex2⟩ := id hX
  refine lv_bif_eq (tgt := 15) hx hb dX7_clear_10 (by decide) (fun c_10 => ?_) (fun c_10 => ?_)
  · skip
    exact absurd (c_10.symm.trans rfl) (by decide)
  · skip
    refine lv_iconstN hx hb 0 dX7_clear_13 (by decide) ?_
    exact mu_iret (x := nI 0) hx hb hr hlocks hS (hX) (by first | rfl | (simp [c_10]; done) | (simp [c_10]; omega) | (simp_all [c_10]; done)) dX7_clear_14
set_option maxHeartbeats 4000000 in
set_option maxRecDepth 100000 in
theorem mX7_pass_b1 (l : Launch) {E : En} {c : Cy} {th : Int32} {ly : Ly} {L : List Nat} {ad : Nat → Nat → Nat} {H0 : Heap} (hX : PM E c th ly L ad H0) (v : Int32) (hv : isInS v (nI 1) (nI 30) = false) : MuI l yX7_pass cX7_pass 6 .int (rmk 2 0 0 44) [.ref (ad 0 0), .int v] E H0 (nI 0) (fun H1 => PM E c (nI 1) ly L ad H1) (cA L H0) 0 0 := by
  obtain ⟨hP, hly, hLb, wf, eq0, eq1, eq2⟩ := id hX
  have wfx := wf
  refine ro_of (by decide) (Nat.le_of_ble_eq_true rfl) ?_
  intro p e s m below meth co ls hx hb hr hml hown hlocks hnm hC hU hl
  have hS : va_S (cA L H0) s.heap H0 [] := by rw [hU]; exact va_S.rf
  have hA : ∀ q, q ∈ L → cA L H0 q := fun q h => Or.inl h
  have hN : ∀ q, s.heap.size ≤ q → cA L H0 q := fun q h => Or.inr (by rw [← hU]; exact h)
  have hAb : ∀ q, cA L H0 q → bA E q := fun q h => h.elim (hLb q) (fun z => Nat.le_trans hC.2.2.2.1 (by rw [hU]; exact z))
  have hl : lv_has ls 6 [(0, .ref (ad 0 0)), (1, .int v)] := hl
  refine lv_aload_n hx hb dX7_pass_0 rfl (lv_at hl 0 rfl) ?_
  refine lv_iload_n hx hb dX7_pass_1 rfl (lv_at hl 1 rfl) ?_
  refine lv_iconstN hx hb 1 dX7_pass_2 (by decide) ?_
  refine lv_bipushN hx hb 30 dX7_pass_3 (by decide) ?_
  refine ro_S (As := [.int v, .int (nI 1), .int (nI 30)]) (rest := [.ref (ad 0 0)]) (v := bI (isInS v (nI 1) (nI 30))) hx hb hml hown hC hS hAb (mX7_isIn l v (nI 1) (nI 30) ) kS_X7_37 ⟨rfl, rfl⟩ ⟨Nat.le_of_ble_eq_true rfl, Nat.le_of_ble_eq_true rfl⟩ rfl hl (Nat.le_of_ble_eq_true rfl) ⟨show _ ≤ (0 : Nat) by omega, show _ ≤ (0 : Nat) by omega⟩ dX7_pass_5 ?_
  refine lv_bif_ne (tgt := 15) hx hb dX7_pass_8 (by decide) (fun c_8 => ?_) (fun c_8 => ?_)
  · skip
    exact absurd (c_8.symm.trans hv) (by decide)
  · skip
    refine lv_iconstN hx hb 1 dX7_pass_11 (by decide) ?_
    refine lv_goto (tgt := 16) hx hb dX7_pass_12 (by decide) ?_
    refine lv_iconstN hx hb 1 dX7_pass_16 (by decide) ?_
    refine mu_V (As := [.int (nI 1), .int (nI 1)]) (h0 := ad 0 0) (rest := []) (v := bI true) hx hb hml hown hC hS hAb (mX7_start_t l hX 1 (show 1 ≤ 1 by first | assumption | omega | decide | (simp only [decide_eq_false_iff_not, decide_eq_true_eq] at *; omega)) (show 1 < 10 by first | assumption | omega | decide | (simp only [decide_eq_false_iff_not, decide_eq_true_eq] at *; omega))) (fun q h => h.elim (hA q) (fun z => hN q (Nat.le_trans hS.1 z))) kV_X7_41 ⟨rfl, rfl⟩ ⟨Nat.le_of_ble_eq_true rfl, Nat.le_of_ble_eq_true rfl⟩ (hP.recv hC cM_0 rfl) rfl hl (Nat.le_of_ble_eq_true rfl) ⟨show 0 + 0 ≤ (0 : Nat) by omega, show 0 + 0 ≤ (0 : Nat) by omega⟩ dX7_pass_17 (fun H locs hB hS9 hz hk => ?_)
    have hS := hS9
    have hX : PM E c (nI 1) ly L ad H := hB
    obtain ⟨hP, hly, hLb, wfx, ex0, ex1, ex2⟩ := id hX
    refine lv_bif_ne (tgt := 48) hx hb dX7_pass_20 (by decide) (fun c_20 => ?_) (fun c_20 => ?_)
    · skip
      refine lv_iconstN hx hb 0 dX7_pass_48 (by decide) ?_
      exact mu_iret (x := nI 0) hx hb hr hlocks hS (hX) (by first | rfl | (simp [c_8, c_20]; done) | (simp [c_8, c_20]; omega) | (simp_all [c_8, c_20]; done)) dX7_pass_49
    · skip
      exact absurd (c_20.symm.trans rfl) (by decide)
set_option maxHeartbeats 4000000 in
set_option maxRecDepth 100000 in
theorem mX7_pass_b2 (l : Launch) {E : En} {c : Cy} {th : Int32} {ly : Ly} {L : List Nat} {ad : Nat → Nat → Nat} {H0 : Heap} (hX : PM E c th ly L ad H0) (n : Nat) (hn : 1 ≤ n) (hn2 : n ≤ 30) (ht : 400 < c.R 0 0 + n) : MuI l yX7_pass cX7_pass 6 .int (rmk 2 0 0 44) [.ref (ad 0 0), .int (nI n)] E H0 (nI 0) (fun H1 => PM E c (nI 2) ly L ad H1) (cA L H0) 0 0 := by
  obtain ⟨hP, hly, hLb, wf, eq0, eq1, eq2⟩ := id hX
  have wfx := wf
  refine ro_of (by decide) (Nat.le_of_ble_eq_true rfl) ?_
  intro p e s m below meth co ls hx hb hr hml hown hlocks hnm hC hU hl
  have hS : va_S (cA L H0) s.heap H0 [] := by rw [hU]; exact va_S.rf
  have hA : ∀ q, q ∈ L → cA L H0 q := fun q h => Or.inl h
  have hN : ∀ q, s.heap.size ≤ q → cA L H0 q := fun q h => Or.inr (by rw [← hU]; exact h)
  have hAb : ∀ q, cA L H0 q → bA E q := fun q h => h.elim (hLb q) (fun z => Nat.le_trans hC.2.2.2.1 (by rw [hU]; exact z))
  have hl : lv_has ls 6 [(0, .ref (ad 0 0)), (1, .int (nI n))] := hl
  refine lv_aload_n hx hb dX7_pass_0 rfl (lv_at hl 0 rfl) ?_
  refine lv_iload_n hx hb dX7_pass_1 rfl (lv_at hl 1 rfl) ?_
  refine lv_iconstN hx hb 1 dX7_pass_2 (by decide) ?_
  refine lv_bipushN hx hb 30 dX7_pass_3 (by decide) ?_
  refine ro_S (As := [.int (nI n), .int (nI 1), .int (nI 30)]) (rest := [.ref (ad 0 0)]) (v := bI (isInS (nI n) (nI 1) (nI 30))) hx hb hml hown hC hS hAb (mX7_isIn l (nI n) (nI 1) (nI 30) ) kS_X7_37 ⟨rfl, rfl⟩ ⟨Nat.le_of_ble_eq_true rfl, Nat.le_of_ble_eq_true rfl⟩ rfl hl (Nat.le_of_ble_eq_true rfl) ⟨show _ ≤ (0 : Nat) by omega, show _ ≤ (0 : Nat) by omega⟩ dX7_pass_5 ?_
  refine lv_bif_ne (tgt := 15) hx hb dX7_pass_8 (by decide) (fun c_8 => ?_) (fun c_8 => ?_)
  · skip
    refine lv_iconstN hx hb 0 dX7_pass_15 (by decide) ?_
    refine lv_iconstN hx hb 1 dX7_pass_16 (by decide) ?_
    refine mu_V (As := [.int (nI 0), .int (nI 1)]) (h0 := ad 0 0) (rest := []) (v := bI false) hx hb hml hown hC hS hAb (mX7_start_f l hX 1 ) (fun q h => h.elim (hA q) (fun z => hN q (Nat.le_trans hS.1 z))) kV_X7_41 ⟨rfl, rfl⟩ ⟨Nat.le_of_ble_eq_true rfl, Nat.le_of_ble_eq_true rfl⟩ (hP.recv hC cM_0 rfl) rfl hl (Nat.le_of_ble_eq_true rfl) ⟨show 0 + 0 ≤ (0 : Nat) by omega, show 0 + 0 ≤ (0 : Nat) by omega⟩ dX7_pass_17 (fun H locs hB hS9 hz hk => ?_)
    have hS := hS9
    have hX : PM E c (nI 0) ly L ad H := hB
    obtain ⟨hP, hly, hLb, wfx, ex0, ex1, ex2⟩ := id hX
    refine lv_bif_ne (tgt := 48) hx hb dX7_pass_20 (by decide) (fun c_20 => ?_) (fun c_20 => ?_)
    · skip
      exact absurd (c_20.symm.trans rfl) (by decide)
    · skip
      refine lv_aload_n hx hb dX7_pass_23 rfl (lv_at hl 0 rfl) ?_
      refine lv_aload_n hx hb dX7_pass_24 rfl (lv_at hl 0 rfl) ?_
      refine pi_get hx hb hC hown hP fL_X7_60 0 0 cM_0 (v := .int (nI (c.R 0 0))) rfl dX7_pass_25 ?_
      have g_1 : c.R 0 0 ≤ 400 := wfx.nt
      refine lv_iload_n hx hb dX7_pass_28 rfl (lv_at hl 1 rfl) ?_
      refine lv_iaddN hx hb dX7_pass_29 ?_
      refine lv_sipushN hx hb 400 dX7_pass_30 (by decide) ?_
      refine lv_icmpN_le (tgt := 40) hx hb dX7_pass_33 (by decide) (by omega) (by omega) (fun c_33 => ?_) (fun c_33 => ?_)
      · skip
        exact absurd ht (by omega)
      · skip
        refine lv_iconstN hx hb 1 dX7_pass_36 (by decide) ?_
        refine lv_goto (tgt := 41) hx hb dX7_pass_37 (by decide) ?_
        refine lv_iconstN hx hb 2 dX7_pass_41 (by decide) ?_
        refine mu_V (As := [.int (nI 1), .int (nI 2)]) (h0 := ad 0 0) (rest := []) (v := bI true) hx hb hml hown hC hS hAb (mX7_refuse_t l hX 2 (show 1 ≤ 2 by first | assumption | omega | decide | (simp only [decide_eq_false_iff_not, decide_eq_true_eq] at *; omega)) (show 2 < 10 by first | assumption | omega | decide | (simp only [decide_eq_false_iff_not, decide_eq_true_eq] at *; omega))) (fun q h => h.elim (hA q) (fun z => hN q (Nat.le_trans hS.1 z))) kV_X7_29 ⟨rfl, rfl⟩ ⟨Nat.le_of_ble_eq_true rfl, Nat.le_of_ble_eq_true rfl⟩ (hP.recv hC cM_0 rfl) rfl hl (Nat.le_of_ble_eq_true rfl) ⟨show 0 + 0 ≤ (0 : Nat) by omega, show 0 + 0 ≤ (0 : Nat) by omega⟩ dX7_pass_42 (fun H locs hB hS9 hz hk => ?_)
        have hS := hS9
        have hX : PM E c (nI 2) ly L ad H := hB
        obtain ⟨hP, hly, hLb, wfx, ex0, ex1, ex2⟩ := id hX
        refine lv_bif_eq (tgt := 50) hx hb dX7_pass_45 (by decide) (fun c_45 => ?_) (fun c_45 => ?_)
        · skip
          exact absurd (c_45.symm.trans rfl) (by decide)
        · skip
          refine lv_iconstN hx hb 0 dX7_pass_48 (by decide) ?_
          exact mu_iret (x := nI 0) hx hb hr hlocks hS (hX) (by first | rfl | (simp [c_8, c_20, c_33, c_45]; done) | (simp [c_8, c_20, c_33, c_45]; omega) | (simp_all [c_8, c_20, c_33, c_45]; done)) dX7_pass_49
  · skip
    exact absurd (c_8.symm.trans (isIn_1 hn hn2 (by decide))) (by decide)
