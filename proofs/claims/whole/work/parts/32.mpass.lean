/-! nights of the reference -/
theorem cl_t {c : Cy} {z t : Nat} (h1 : 0 < c.R 2 z) (h2 : t % c.R 2 z = 0) : clnS c z t = true := by unfold clnS; simp [h1, h2]
theorem cl_f {c : Cy} {z t : Nat} (h2 : 0 < t % c.R 2 z) : clnS c z t = false := by unfold clnS; simp [Nat.pos_iff_ne_zero.mp h2]
theorem cl_0 {c : Cy} {z t : Nat} (h1 : c.R 2 z = 0) : clnS c z t = false := by unfold clnS; simp [h1]
theorem pwM_usedQ {p : Program} {l : Launch} {e : Env} {Rm : Room} {s : State} {m : MethodId} {args : Array Value} {below : List Frame} {meth : Method} {co : Code} {H H0 : Heap} {locs : List Loc} {cells slots : Nat} {Q : State → Prop} {cc : ByteArray} {pc : Nat} {ls : Array Slot} {rest : List Value} {E : En} {L : List Nat} {ad : Nat → Nat → Nat} {A : Nat → Prop} {own ref C : String} {index N : Nat} {T : u_T} {ly : Ly} {th : Int32} {R : Nat → Nat → Nat} {I : Nat → Nat → Int32} {B : Nat → Nat → Bool} {Wr : Nat → Nat → Int32} {S : Nat → Nat → Option Nat} {L2 : List Nat} {ct2 : Nat → Nat → Option va_E} {ad2 : Nat → Nat → Nat} (hI : PI E.1 L2 ct2 ad2 H) (hLL : ∀ q, q ∈ L2 → q ∉ L) (hA2 : ∀ q, q ∈ L2 → A q) (hx : p.tables.exec = Jvm.exec) (hb : co.code = cc) (hC : Cs E s) (hown : s.vm.findClass own = some m.cls) (hX : PM E (R, I, B, Wr, S) th ly L ad H) (hS : va_S A H0 H locs) (hA : ∀ q, q ∈ L → A q) (hf : FP own ref index 6 C T N 4 .int) (i : Nat) (hi : i < R 11 1) {v : Nat} (hw : WF (up2 R 3 i v, I, B, Wr, S)) (hdg : decode cc pc = .ok (.putfield index, 3))
    (kk : ∀ (H1 : Heap) (locs1 : List Loc), PM E (up2 R 3 i v, I, B, Wr, S) th ly L ad H1 → PI E.1 L2 ct2 ad2 H1 → va_S A H0 H1 locs1 → W p l e Rm s m args below meth co H1 locs1 cells slots Q (F0 m (pc + 3) ls rest)) : W p l e Rm s m args below meth co H locs cells slots Q (F0 m pc ls (.int (nI v) :: .ref (ad 5 i) :: rest)) := by
  refine pi_putQ hI hLL hA2 hx hb hC hown hX.1 hS hA hf 5 i (cM_5 hi) rfl rfl (Nat.le_of_ble_eq_true rfl) hdg (fun H1 locs1 hP1 hI1 hS1 => kk H1 locs1 ?_ hI1 hS1)
  refine ⟨hP1.ext fun k z => ?_, hX.2.1, hX.2.2.1, hw, hX.2.2.2.2⟩
  exact by
    unfold ctu
    by_cases q : k = 5 ∧ z = i
    · rw [if_pos q, q.1, q.2, show cM E (up2 R 3 i v, I, B, Wr, S) th ly ad 5 i = _ from cM_5 hi]
      simp [mRo, mWa, mSh, mHa, mLa, xWr, oLs, oLa, mfr, slS, rdS, up2, va_up, upd, shI, Cy.R, Cy.I, Cy.B, Cy.Wr, Cy.sh] <;> rfl
    · rw [if_neg q]
      rcases k with _ | _ | _ | _ | _ | _ | _ | _ | k <;> first | rfl | (have q1 : ¬ z = i := fun w => q ⟨rfl, w⟩
                                                                         simp [cM, mRo, mWa, mSh, mHa, mLa, xWr, oLs, oLa, mfr, slS, rdS, up2, q1, shI, Cy.R, Cy.I, Cy.B, Cy.Wr, Cy.sh] <;> rfl)
set_option maxHeartbeats 4000000 in
set_option maxRecDepth 100000 in
theorem mX7_pass_g (l : Launch) {E : En} {c : Cy} {th : Int32} {ly : Ly} {L : List Nat} {ad : Nat → Nat → Nat} {H0 : Heap} (hX : PM E c th ly L ad H0) (n : Nat) (hn : 1 ≤ n) (hn2 : n ≤ 30) (ht : c.R 0 0 + n ≤ 400) : MuI l yX7_pass cX7_pass 6 .int (rmk 3 60 240 53) [.ref (ad 0 0), .int (nI n)] E H0 (nI (smN (fun k => niN (niC c k)) n)) (fun H1 => PM E ((niC c n).R, (niC c n).I, (niC c n).B, (niC c n).Wr, (niC c n).sh) (nI 0) ly L ad H1) (cA L H0) 60 240 := by
  obtain ⟨hP, hly, hLb, wf, eq0, eq1, eq2⟩ := id hX
  have wfx := wf
  refine ro_of (by decide) (Nat.le_of_ble_eq_true rfl) ?_
  intro p e s m below meth co ls hx hb hr hml hown hlocks hnm hC hU hl
  have hS : va_S (cA L H0) s.heap H0 [] := by rw [hU]; exact va_S.rf
  have hA : ∀ q, q ∈ L → cA L H0 q := fun q h => Or.inl h
  have hN : ∀ q, s.heap.size ≤ q → cA L H0 q := fun q h => Or.inr (by rw [← hU]; exact h)
  have hAb : ∀ q, cA L H0 q → bA E q := fun q h => h.elim (hLb q) (fun z => Nat.le_trans hC.2.2.2.1 (by rw [hU]; exact z))
  have hl : lv_has ls 6 [(0, .ref (ad 0 0)), (1, .int (nI n))] := hl
  refine lv_aload_n hx hb dX7_pass_0 rfl (lv_at hl 0 rfl) ?_
  refine lv_iload_n hx hb dX7_pass_1 rfl (lv_at hl 1 rfl) ?_
  refine lv_iconstN hx hb 1 dX7_pass_2 (by decide) ?_
  refine lv_bipushN hx hb 30 dX7_pass_3 (by decide) ?_
  refine ro_S (As := [.int (nI n), .int (nI 1), .int (nI 30)]) (rest := [.ref (ad 0 0)]) (v := bI (isInS (nI n) (nI 1) (nI 30))) hx hb hml hown hC hS hAb (mX7_isIn l (nI n) (nI 1) (nI 30) ) kS_X7_37 ⟨rfl, rfl⟩ ⟨Nat.le_of_ble_eq_true rfl, Nat.le_of_ble_eq_true rfl⟩ rfl hl (Nat.le_of_ble_eq_true rfl) ⟨show _ ≤ (60 : Nat) by omega, show _ ≤ (240 : Nat) by omega⟩ dX7_pass_5 ?_
  refine lv_bif_ne (tgt := 15) hx hb dX7_pass_8 (by decide) (fun c_8 => ?_) (fun c_8 => ?_)
  · skip
    refine lv_iconstN hx hb 0 dX7_pass_15 (by decide) ?_
    refine lv_iconstN hx hb 1 dX7_pass_16 (by decide) ?_
    refine mu_V (As := [.int (nI 0), .int (nI 1)]) (h0 := ad 0 0) (rest := []) (v := bI false) hx hb hml hown hC hS hAb (mX7_start_f l hX 1 ) (fun q h => h.elim (hA q) (fun z => hN q (Nat.le_trans hS.1 z))) kV_X7_41 ⟨rfl, rfl⟩ ⟨Nat.le_of_ble_eq_true rfl, Nat.le_of_ble_eq_true rfl⟩ (hP.recv hC cM_0 rfl) rfl hl (Nat.le_of_ble_eq_true rfl) ⟨show 0 + 0 ≤ (60 : Nat) by omega, show 0 + 0 ≤ (240 : Nat) by omega⟩ dX7_pass_17 (fun H locs hB hS9 hz hk => ?_)
    have hS := hS9
    have hX : PM E c (nI 0) ly L ad H := hB
    obtain ⟨hP, hly, hLb, wfx, ex0, ex1, ex2⟩ := id hX
    refine lv_bif_ne (tgt := 48) hx hb dX7_pass_20 (by decide) (fun c_20 => ?_) (fun c_20 => ?_)
    · skip
      exact absurd (c_20.symm.trans rfl) (by decide)
    · skip
      refine lv_aload_n hx hb dX7_pass_23 rfl (lv_at hl 0 rfl) ?_
      refine lv_aload_n hx hb dX7_pass_24 rfl (lv_at hl 0 rfl) ?_
      refine pi_get hx hb hC hown hP fL_X7_60 0 0 cM_0 (v := .int (nI (c.R 0 0))) rfl dX7_pass_25 ?_
      have g_1 : c.R 0 0 ≤ 400 := wfx.nt
      refine lv_iload_n hx hb dX7_pass_28 rfl (lv_at hl 1 rfl) ?_
      refine lv_iaddN hx hb dX7_pass_29 ?_
      refine lv_sipushN hx hb 400 dX7_pass_30 (by decide) ?_
      refine lv_icmpN_le (tgt := 40) hx hb dX7_pass_33 (by decide) (by omega) (by omega) (fun c_33 => ?_) (fun c_33 => ?_)
      · skip
        refine lv_iconstN hx hb 0 dX7_pass_40 (by decide) ?_
        refine lv_iconstN hx hb 2 dX7_pass_41 (by decide) ?_
        refine mu_V (As := [.int (nI 0), .int (nI 2)]) (h0 := ad 0 0) (rest := []) (v := bI false) hx hb hml hown hC hS hAb (mX7_refuse_f l hX 2 ) (fun q h => h.elim (hA q) (fun z => hN q (Nat.le_trans hS.1 z))) kV_X7_29 ⟨rfl, rfl⟩ ⟨Nat.le_of_ble_eq_true rfl, Nat.le_of_ble_eq_true rfl⟩ (hP.recv hC cM_0 rfl) rfl hl (Nat.le_of_ble_eq_true rfl) ⟨show 0 + 0 ≤ (60 : Nat) by omega, show 0 + 0 ≤ (240 : Nat) by omega⟩ dX7_pass_42 (fun H locs hB hS9 hz hk => ?_)
        have hS := hS9
        have hX : PM E c (nI 0) ly L ad H := hB
        obtain ⟨hP, hly, hLb, wfx, ex0, ex1, ex2⟩ := id hX
        refine lv_bif_eq (tgt := 50) hx hb dX7_pass_45 (by decide) (fun c_45 => ?_) (fun c_45 => ?_)
        · skip
          refine lv_iconstN hx hb 0 dX7_pass_50 (by decide) ?_
          refine lv_istore_n (lv' := [(2, .int (nI 0)), (0, .ref (ad 0 0)), (1, .int (nI n))]) hx hb dX7_pass_51 rfl hl (by decide) rfl (fun ls hl => ?_)
          refine lv_iconstN hx hb 0 dX7_pass_52 (by decide) ?_
          refine lv_istore_n (lv' := [(3, .int (nI 0)), (2, .int (nI 0)), (0, .ref (ad 0 0)), (1, .int (nI n))]) hx hb dX7_pass_53 rfl hl (by decide) rfl (fun ls hl => ?_)
          have lp54 : ∀ fu : Nat, ∀ (k a : Nat), k ≤ n → a = smN (fun k => niN (niC c k)) k → n - k < fu → ∀ (H : Heap) (locs : List Loc), PM E ((niC c k).R, (niC c k).I, (niC c k).B, (niC c k).Wr, (niC c k).sh) (nI 0) ly L ad H → va_S (cA L H0) s.heap H locs → ∀ ls : Array Slot, lv_has ls 6 [(0, .ref (ad 0 0)), (1, .int (nI n)), (2, .int (nI a)), (3, .int (nI k))] → W p l e (rmk 3 60 240 53) s m ([.ref (ad 0 0), .int (nI n)] : List Value).toArray below meth co H locs (k * 2) (k * 8) (MQ below (QiM (nI (smN (fun k => niN (niC c k)) n)) (fun H1 => PM E ((niC c n).R, (niC c n).I, (niC c n).B, (niC c n).Wr, (niC c n).sh) (nI 0) ly L ad H1) (cA L H0)) ([.ref (ad 0 0), .int (nI n)] : List Value).toArray s 60 240 (cA L H0)) (F0 m 54 ls []) := by
            intro fu
            induction fu with
            | zero => intro k a hk ha hfu; exact absurd hfu (Nat.not_lt_zero _)
            | succ fu ih54 =>
              intro k a hk ha hfu H locs hX hS ls hl
              obtain ⟨hP, hly, hLb, wfx, ex0, ex1, ex2⟩ := id hX
              have g0 := niC_0 c k
              have q0 : (niC c k).R 10 0 ≤ (niC c k).R 11 0 := wfx.sw
              have q1 : (niC c k).R 10 1 ≤ (niC c k).R 11 1 := wfx.sh'
              have q2 : (niC c k).R 11 0 ≤ 6 := wfx.nw
              have q3 : (niC c k).R 11 1 ≤ 8 := wfx.nh
              refine lv_iload_n hx hb dX7_pass_54 rfl (lv_at hl 3 rfl) ?_
              refine lv_iload_n hx hb dX7_pass_55 rfl (lv_at hl 1 rfl) ?_
              refine lv_icmpN_ge (tgt := 188) hx hb dX7_pass_56 (by decide) (by omega) (by omega) (fun c_56 => ?_) (fun c_56 => ?_)
              · skip
                refine lv_iload_n hx hb dX7_pass_188 rfl (lv_at hl 2 rfl) ?_
                refine W.widen (k := 60) (n := 240) (by omega) (by omega) ?_
                exact mu_iret (x := nI a) hx hb hr hlocks hS (by have z : k = n := (by omega); show PM _ _ _ _ _ _ _; rw [← z]; exact hX) (by rw [ha, show k = n by omega]) dX7_pass_189
              · skip
                refine lv_aload_n hx hb dX7_pass_59 rfl (lv_at hl 0 rfl) ?_
                refine lv_dup hx hb dX7_pass_60 rfl ?_
                refine pi_get hx hb hC hown hP fL_X7_60 0 0 cM_0 (v := .int (nI (((niC c k).R) 0 0))) rfl dX7_pass_61 ?_
                have g_2 : ((niC c k).R) 0 0 ≤ 400 := wfx.nt
                refine lv_iconstN hx hb 1 dX7_pass_64 (by decide) ?_
                refine lv_iaddN hx hb dX7_pass_65 ?_
                refine pwM_night (R := (niC c k).R) (I := (niC c k).I) (B := (niC c k).B) (Wr := (niC c k).Wr) (S := (niC c k).sh) hx hb hC hown hX hS hA fP_X7_60 (v := (((niC c k).R) 0 0) + 1) (WF.uR0 wfx (by omega)) dX7_pass_66 (fun H locs hX hS => ?_)
                obtain ⟨hP, hly, hLb, wfx, ex0, ex1, ex2⟩ := id hX
                refine lv_aload_n hx hb dX7_pass_69 rfl (lv_at hl 0 rfl) ?_
                refine lv_dup hx hb dX7_pass_70 rfl ?_
                refine pi_get hx hb hC hown hP fL_X7_9 0 0 cM_0 (v := .int (((niC c k).I) 0 0)) rfl dX7_pass_71 ?_
                refine lv_iconstN hx hb 5 dX7_pass_74 (by decide) ?_
                refine lv_iadd hx hb dX7_pass_75 ?_
                refine pwM_coins (R := up2 ((niC c k).R) 0 0 ((((niC c k).R) 0 0) + 1)) (I := (niC c k).I) (B := (niC c k).B) (Wr := (niC c k).Wr) (S := (niC c k).sh) hx hb hC hown hX hS hA fP_X7_9 (v := (((niC c k).I) 0 0) + (nI 5)) (WF.uI wfx (by decide)) dX7_pass_76 (fun H locs hX hS => ?_)
                obtain ⟨hP, hly, hLb, wfx, ex0, ex1, ex2⟩ := id hX
                refine lv_aload_n hx hb dX7_pass_79 rfl (lv_at hl 0 rfl) ?_
                refine pi_get hx hb hC hown hP fL_X7_20 0 0 cM_0 (v := .ref (ad 1 1)) rfl dX7_pass_80 ?_
                refine it_new hx hb hml hown hC hS hAb hN hP hLb 1 (cM_1 (by decide)) ⟨Nat.le_of_ble_eq_true rfl, Nat.le_of_ble_eq_true rfl⟩ hl (Nat.le_of_ble_eq_true rfl) ⟨show k * 2 + 1 ≤ (60 : Nat) by omega, show k * 8 + 4 ≤ (240 : Nat) by omega⟩ dX7_pass_83 (fun q83 H locs hqn hI_q83 hS9 hz hk => ?_)
                have hq_q83 : q83 ∉ L := fun h => absurd (hP.lt h) (Nat.not_lt.mpr hqn)
                have hqA_q83 : cA L H0 q83 := hN _ (Nat.le_trans hS.1 hqn)
                have hS := hS9
                have hX := hX.kept (fun z h1 _ => hk z h1)
                obtain ⟨hP, hly, hLb, wfx, ex0, ex1, ex2⟩ := id hX
                refine lv_astore (lv' := [(4, .ref q83), (0, .ref (ad 0 0)), (1, .int (nI n)), (2, .int (nI a)), (3, .int (nI k))]) hx hb dX7_pass_86 hl (by decide) rfl (fun ls hl => ?_)
                have lp88 : ∀ fu : Nat, ∀ (z : Nat), z ≤ (niC c k).R 10 1 → (niC c k).R 10 1 - z < fu → ∀ (H : Heap) (locs : List Loc), PM E (rzR (niC c k) z, niI (niC c k), (niC c k).B, (niC c k).Wr, (niC c k).sh) (nI 0) ly L ad H → va_S (cA L H0) s.heap H locs → ∀ last : Int32, PI E.1 [q83] (itc z last (ly.1 1) (ad 1 1)) (fun _ _ => q83) H → ∀ ls : Array Slot, lv_has ls 6 [(0, .ref (ad 0 0)), (1, .int (nI n)), (2, .int (nI a)), (3, .int (nI k)), (4, .ref q83)] → W p l e (rmk 3 60 240 53) s m ([.ref (ad 0 0), .int (nI n)] : List Value).toArray below meth co H locs (k * 2 + 1) (k * 8 + 4) (MQ below (QiM (nI (smN (fun k => niN (niC c k)) n)) (fun H1 => PM E ((niC c n).R, (niC c n).I, (niC c n).B, (niC c n).Wr, (niC c n).sh) (nI 0) ly L ad H1) (cA L H0)) ([.ref (ad 0 0), .int (nI n)] : List Value).toArray s 60 240 (cA L H0)) (F0 m 88 ls []) := by
                  intro fu
                  induction fu with
                  | zero => intro z hz hfu; exact absurd hfu (Nat.not_lt_zero _)
                  | succ fu ih88 =>
                    intro z hz hfu H locs hX hS last hI_q83 ls hl
                    obtain ⟨hP, hly, hLb, wfx, ex0, ex1, ex2⟩ := id hX
                    refine lv_aload hx hb dX7_pass_88 (lv_at hl 4 rfl) ?_
                    refine it_has hx hb hml hown hC hS hAb hP 1 (cM_1 (by decide)) q83 z hI_q83 (by omega) (show ((niC c k).R) 10 1 < 2 ^ 31 by omega) ⟨Nat.le_of_ble_eq_true rfl, Nat.le_of_ble_eq_true rfl⟩ hl (Nat.le_of_ble_eq_true rfl) ⟨show _ ≤ (60 : Nat) by omega, show _ ≤ (240 : Nat) by omega⟩ dX7_pass_90 (fun c_90 => ?_) (fun c_90 => ?_)
                    · skip
                      have c_90 : z < ((niC c k).R) 10 1 := by have e9 : z < ((niC c k).R) 10 1 ∨ ((niC c k).R) 10 1 < z := c_90; omega
                      refine lv_bif_eq (tgt := 119) hx hb dX7_pass_95 (by decide) (fun z9 => absurd z9 (by decide)) (fun z9 => ?_)
                      refine lv_aload hx hb dX7_pass_98 (lv_at hl 4 rfl) ?_
                      refine it_next hx hb hml hown hC hS hAb hP 1 (cM_1 (by decide)) (fun h9 => cM_2 (by decide) h9) (hly 1 (by decide)) q83 z hq_q83 hqA_q83 hI_q83 (by first | assumption | omega) ⟨Nat.le_of_ble_eq_true rfl, Nat.le_of_ble_eq_true rfl⟩ hl (Nat.le_of_ble_eq_true rfl) ⟨show _ ≤ (60 : Nat) by omega, show _ ≤ (240 : Nat) by omega⟩ dX7_pass_100 (fun H locs hI_q83 hS hz hk => ?_)
                      have hX := hX.kept (fun z h1 h2 => hk z h1 (fun h3 => hq_q83 (by rw [← h3]; exact h2)))
                      obtain ⟨hP, hly, hLb, wfx, ex0, ex1, ex2⟩ := id hX
                      have hg_3 : z < ((niC c k).R) 11 1 := by have h9 : ((niC c k).R) 10 1 ≤ ((niC c k).R) 11 1 := wfx.sh'; omega
                      refine pi_cast (nm := "") hx hb hC hown hP 5 z (cM_5 hg_3) rfl wCl_X7_53 dX7_pass_105 ?_
                      refine lv_astore (lv' := [(5, .ref (ad 5 z)), (0, .ref (ad 0 0)), (1, .int (nI n)), (2, .int (nI a)), (3, .int (nI k)), (4, .ref q83)]) hx hb dX7_pass_108 hl (by decide) rfl (fun ls hl => ?_)
                      refine lv_aload hx hb dX7_pass_110 (lv_at hl 0 rfl) ?_
                      refine lv_iconstN hx hb 0 dX7_pass_112 (by decide) ?_
                      refine pwM_usedQ (R := rzR (niC c k) z) (I := niI (niC c k)) (B := (niC c k).B) (Wr := (niC c k).Wr) (S := (niC c k).sh) hI_q83 (fun z h1 h2 => hq_q83 (by rw [← List.mem_singleton.mp h1]; exact h2)) (fun z h1 => by rw [List.mem_singleton.mp h1]; exact hqA_q83) hx hb hC hown hX hS hA fP_X7_123 z hg_3 (v := 0) (WF.uR3 wfx (by omega)) dX7_pass_113 (fun H locs hX hI_q83 hS => ?_)
                      obtain ⟨hP, hly, hLb, wfx, ex0, ex1, ex2⟩ := id hX
                      refine lv_goto (tgt := 88) hx hb dX7_pass_116 (by decide) ?_
                      have eR : up2 (rzR (niC c k) z) 3 z 0 = rzR (niC c k) (z + 1) := rzR_s
                      have hX : PM E (rzR (niC c k) (z + 1), niI (niC c k), (niC c k).B, (niC c k).Wr, (niC c k).sh) (nI 0) ly L ad H := by rw [← eR]; exact hX
                      exact ih88 (z + 1) (by first | rfl | assumption | omega | (simp [c_8, c_20, c_33, c_45, c_56]; done) | (simp_all [c_8, c_20, c_33, c_45, c_56]; done)) (by omega) _ _ hX hS _ hI_q83 _ (lv_sub hl [1, 2, 3, 4, 5] rfl)
                    · skip
                      have c_90 : z = ((niC c k).R) 10 1 := c_90
                      refine lv_bif_eq (tgt := 119) hx hb dX7_pass_95 (by decide) (fun z9 => ?_) (fun z9 => absurd z9 (by decide))
                      refine lv_aload_n hx hb dX7_pass_119 rfl (lv_at hl 0 rfl) ?_
                      refine pi_get hx hb hC hown hP fL_X7_16 0 0 cM_0 (v := .ref (ad 1 0)) rfl dX7_pass_120 ?_
                      refine it_new hx hb hml hown hC hS hAb hN hP hLb 0 (cM_1 (by decide)) ⟨Nat.le_of_ble_eq_true rfl, Nat.le_of_ble_eq_true rfl⟩ hl (Nat.le_of_ble_eq_true rfl) ⟨show k * 2 + 1 + 1 ≤ (60 : Nat) by omega, show k * 8 + 4 + 4 ≤ (240 : Nat) by omega⟩ dX7_pass_123 (fun q123 H locs hqn hI_q123 hS9 hz hk => ?_)
                      have hq_q123 : q123 ∉ L := fun h => absurd (hP.lt h) (Nat.not_lt.mpr hqn)
                      have hqA_q123 : cA L H0 q123 := hN _ (Nat.le_trans hS.1 hqn)
                      have hS := hS9
                      have hX := hX.kept (fun z h1 _ => hk z h1)
                      obtain ⟨hP, hly, hLb, wfx, ex0, ex1, ex2⟩ := id hX
                      refine lv_astore (lv' := [(4, .ref q123), (0, .ref (ad 0 0)), (1, .int (nI n)), (2, .int (nI a)), (3, .int (nI k))]) hx hb dX7_pass_126 hl (by decide) rfl (fun ls hl => ?_)
                      have lp128 : ∀ fu : Nat, ∀ (z a2 : Nat), z ≤ (niC c k).R 10 0 → a2 = smN (fun k => niN (niC c k)) k + smN (niF (niC c k)) z → (niC c k).R 10 0 - z < fu → ∀ (H : Heap) (locs : List Loc), PM E (rzR (niC c k) ((niC c k).R 10 1), niI (niC c k), (niC c k).B, (niC c k).Wr, bnS (niC c k) z) (nI 0) ly L ad H → va_S (cA L H0) s.heap H locs → ∀ last : Int32, PI E.1 [q123] (itc z last (ly.1 0) (ad 1 0)) (fun _ _ => q123) H → ∀ ls : Array Slot, lv_has ls 6 [(0, .ref (ad 0 0)), (1, .int (nI n)), (2, .int (nI a2)), (3, .int (nI k)), (4, .ref q123)] → W p l e (rmk 3 60 240 53) s m ([.ref (ad 0 0), .int (nI n)] : List Value).toArray below meth co H locs (k * 2 + 1 + 1) (k * 8 + 4 + 4) (MQ below (QiM (nI (smN (fun k => niN (niC c k)) n)) (fun H1 => PM E ((niC c n).R, (niC c n).I, (niC c n).B, (niC c n).Wr, (niC c n).sh) (nI 0) ly L ad H1) (cA L H0)) ([.ref (ad 0 0), .int (nI n)] : List Value).toArray s 60 240 (cA L H0)) (F0 m 128 ls []) := by
                        intro fu
                        induction fu with
                        | zero => intro z a2 hz ha2 hfu; exact absurd hfu (Nat.not_lt_zero _)
                        | succ fu ih128 =>
                          intro z a2 hz ha2 hfu H locs hX hS last hI_q123 ls hl
                          obtain ⟨hP, hly, hLb, wfx, ex0, ex1, ex2⟩ := id hX
                          refine lv_aload hx hb dX7_pass_128 (lv_at hl 4 rfl) ?_
                          refine it_has hx hb hml hown hC hS hAb hP 0 (cM_1 (by decide)) q123 z hI_q123 (by omega) (show ((niC c k).R) 10 0 < 2 ^ 31 by omega) ⟨Nat.le_of_ble_eq_true rfl, Nat.le_of_ble_eq_true rfl⟩ hl (Nat.le_of_ble_eq_true rfl) ⟨show _ ≤ (60 : Nat) by omega, show _ ≤ (240 : Nat) by omega⟩ dX7_pass_130 (fun c_130 => ?_) (fun c_130 => ?_)
                          · skip
                            have c_130 : z < ((niC c k).R) 10 0 := by have e9 : z < ((niC c k).R) 10 0 ∨ ((niC c k).R) 10 0 < z := c_130; omega
                            refine lv_bif_eq (tgt := 182) hx hb dX7_pass_135 (by decide) (fun z9 => absurd z9 (by decide)) (fun z9 => ?_)
                            refine lv_aload hx hb dX7_pass_138 (lv_at hl 4 rfl) ?_
                            refine it_next hx hb hml hown hC hS hAb hP 0 (cM_1 (by decide)) (fun h9 => cM_2 (by decide) h9) (hly 0 (by decide)) q123 z hq_q123 hqA_q123 hI_q123 (by first | assumption | omega) ⟨Nat.le_of_ble_eq_true rfl, Nat.le_of_ble_eq_true rfl⟩ hl (Nat.le_of_ble_eq_true rfl) ⟨show _ ≤ (60 : Nat) by omega, show _ ≤ (240 : Nat) by omega⟩ dX7_pass_140 (fun H locs hI_q123 hS hz hk => ?_)
                            have hX := hX.kept (fun z h1 h2 => hk z h1 (fun h3 => hq_q123 (by rw [← h3]; exact h2)))
                            obtain ⟨hP, hly, hLb, wfx, ex0, ex1, ex2⟩ := id hX
                            have hg_4 : z < ((niC c k).R) 11 0 := by have h9 : ((niC c k).R) 10 0 ≤ ((niC c k).R) 11 0 := wfx.sw; omega
                            refine pi_cast (nm := "") hx hb hC hown hP 3 z (cM_3 hg_4) rfl wCl_X7_44 dX7_pass_145 ?_
                            refine lv_astore (lv' := [(5, .ref (ad 3 z)), (0, .ref (ad 0 0)), (1, .int (nI n)), (2, .int (nI a2)), (3, .int (nI k)), (4, .ref q123)]) hx hb dX7_pass_148 hl (by decide) rfl (fun ls hl => ?_)
                            refine lv_aload hx hb dX7_pass_150 (lv_at hl 0 rfl) ?_
                            refine pi_get hx hb hC hown hP fL_X7_212 3 z (cM_3 hg_4) (v := .int (nI (((niC c k).R) 2 z))) rfl dX7_pass_152 ?_
                            have g_5 : ((niC c k).R) 2 z ≤ 20 := wfx.cl hg_4
                            refine lv_ifN_le (tgt := 179) hx hb dX7_pass_155 (by decide) (by omega) (fun c_155 => ?_) (fun c_155 => ?_)
                            · skip
                              refine lv_goto (tgt := 128) hx hb dX7_pass_179 (by decide) ?_
                              have esh : bnS (niC c k) z = bnS (niC c k) (z + 1) := by first | exact bnS_t (cl_t c_155 c_168) | exact bnS_f (cl_f c_168) | exact bnS_f (cl_0 c_155)
                              have hX : PM E (rzR (niC c k) ((niC c k).R 10 1), niI (niC c k), (niC c k).B, (niC c k).Wr, bnS (niC c k) (z + 1)) (nI 0) ly L ad H := by rw [← esh]; exact hX
                              exact ih128 (z + 1) a2 (by first | rfl | assumption | omega | (simp [c_8, c_20, c_33, c_45, c_56, c_155]; done) | (simp_all [c_8, c_20, c_33, c_45, c_56, c_155]; done)) (by first | (rw [ha2, pnt_c (c := niC c k) (fun q => bnS_at), Nat.add_assoc, niF_t (cl_t c_155 c_168)]) | (rw [ha2, niF_f (cl_f c_168)]) | (rw [ha2, niF_f (cl_0 c_155)])) (by omega) _ _ hX hS _ hI_q123 _ (lv_sub hl [1, 2, 3, 4, 5] rfl)
                            · skip
                              refine lv_aload_n hx hb dX7_pass_158 rfl (lv_at hl 1 rfl) ?_
                              refine pi_get hx hb hC hown hP fL_X7_60 0 0 cM_0 (v := .int (nI ((niC c k).R 0 0 + 1))) rfl dX7_pass_159 ?_
                              have g_6 : (niC c k).R 0 0 + 1 ≤ 400 := wfx.nt
                              refine lv_aload hx hb dX7_pass_162 (lv_at hl 0 rfl) ?_
                              refine pi_get hx hb hC hown hP fL_X7_212 3 z (cM_3 hg_4) (v := .int (nI (((niC c k).R) 2 z))) rfl dX7_pass_164 ?_
                              refine lv_iremN hx hb dX7_pass_167 (by omega) (by omega) (by omega) ?_
                              have gm_7 : ((niC c k).R 0 0 + 1) % (((niC c k).R) 2 z) < (((niC c k).R) 2 z) := Nat.mod_lt _ (by omega)
                              refine lv_ifN_ne (tgt := 179) hx hb dX7_pass_168 (by decide) (by omega) (fun c_168 => ?_) (fun c_168 => ?_)
                              · skip
                                refine lv_goto (tgt := 128) hx hb dX7_pass_179 (by decide) ?_
                                have esh : bnS (niC c k) z = bnS (niC c k) (z + 1) := by first | exact bnS_t (cl_t c_155 c_168) | exact bnS_f (cl_f c_168) | exact bnS_f (cl_0 c_155)
                                have hX : PM E (rzR (niC c k) ((niC c k).R 10 1), niI (niC c k), (niC c k).B, (niC c k).Wr, bnS (niC c k) (z + 1)) (nI 0) ly L ad H := by rw [← esh]; exact hX
                                exact ih128 (z + 1) a2 (by first | rfl | assumption | omega | (simp [c_8, c_20, c_33, c_45, c_56, c_155, c_168]; done) | (simp_all [c_8, c_20, c_33, c_45, c_56, c_155, c_168]; done)) (by first | (rw [ha2, pnt_c (c := niC c k) (fun q => bnS_at), Nat.add_assoc, niF_t (cl_t c_155 c_168)]) | (rw [ha2, niF_f (cl_f c_168)]) | (rw [ha2, niF_f (cl_0 c_155)])) (by omega) _ _ hX hS _ hI_q123 _ (lv_sub hl [1, 2, 3, 4, 5] rfl)
                              · skip
                                refine lv_iload_n hx hb dX7_pass_171 rfl (lv_at hl 3 rfl) ?_
                                refine lv_aload hx hb dX7_pass_172 (lv_at hl 0 rfl) ?_
                                refine mu_V (As := []) (h0 := ad 3 z) (rest := [.int (nI a2)]) (v := nI (cntN (pntB (rzR (niC c k) ((niC c k).R 10 1), niI (niC c k), (niC c k).B, (niC c k).Wr, bnS (niC c k) z) z) (((niC c k).R) 1 z))) hx hb hml hown hC hS hAb (mX6_bare l hX z hg_4) (fun q h => h.elim (hA q) (fun z => hN q (Nat.le_trans hS.1 z))) kV_X7_171 ⟨rfl, rfl⟩ ⟨Nat.le_of_ble_eq_true rfl, Nat.le_of_ble_eq_true rfl⟩ (hP.recv hC (cM_3 hg_4) rfl) rfl hl (Nat.le_of_ble_eq_true rfl) ⟨show k * 2 + 1 + 1 + 0 ≤ (60 : Nat) by omega, show k * 8 + 4 + 4 + 0 ≤ (240 : Nat) by omega⟩ dX7_pass_174 (fun H locs hB hS9 hz hk => ?_)
                                have hS := hS9
                                have hI_q123 := hI_q123.kept (fun z h1 h2 => hk z h1 (fun h3 => h3.elim (fun h4 => hq_q123 (by rw [← List.mem_singleton.mp h2]; exact h4)) (fun h4 => absurd h1 (Nat.not_lt.mpr h4))))
                                have hX : PM E (rzR (niC c k) ((niC c k).R 10 1), niI (niC c k), (niC c k).B, (niC c k).Wr, mk1 (bnS (niC c k) z) z (((niC c k).R) 1 z) (fun _ => true)) (nI 0) ly L ad H := hB
                                obtain ⟨hP, hly, hLb, wfx, ex0, ex1, ex2⟩ := id hX
                                refine lv_iaddN hx hb dX7_pass_177 ?_
                                refine lv_istore_n (lv' := [(2, .int (nI (a2 + (cntN (pntB (rzR (niC c k) ((niC c k).R 10 1), niI (niC c k), (niC c k).B, (niC c k).Wr, bnS (niC c k) z) z) (((niC c k).R) 1 z))))), (5, .ref (ad 3 z)), (0, .ref (ad 0 0)), (1, .int (nI n)), (3, .int (nI k)), (4, .ref q123)]) hx hb dX7_pass_178 rfl hl (by decide) rfl (fun ls hl => ?_)
                                refine lv_goto (tgt := 128) hx hb dX7_pass_179 (by decide) ?_
                                have esh : mk1 (bnS (niC c k) z) z (((niC c k).R) 1 z) (fun _ => true) = bnS (niC c k) (z + 1) := by first | exact bnS_t (cl_t c_155 c_168) | exact bnS_f (cl_f c_168) | exact bnS_f (cl_0 c_155)
                                have hX : PM E (rzR (niC c k) ((niC c k).R 10 1), niI (niC c k), (niC c k).B, (niC c k).Wr, bnS (niC c k) (z + 1)) (nI 0) ly L ad H := by rw [← esh]; exact hX
                                refine W.widen (k := k * 2 + 1 + 1) (n := k * 8 + 4 + 4) (by omega) (by omega) ?_
                                exact ih128 (z + 1) (a2 + (cntN (pntB (rzR (niC c k) ((niC c k).R 10 1), niI (niC c k), (niC c k).B, (niC c k).Wr, bnS (niC c k) z) z) (((niC c k).R) 1 z))) (by first | rfl | assumption | omega | (simp [c_8, c_20, c_33, c_45, c_56, c_155, c_168]; done) | (simp_all [c_8, c_20, c_33, c_45, c_56, c_155, c_168]; done)) (by first | (rw [ha2, pnt_c (c := niC c k) (fun q => bnS_at), Nat.add_assoc, niF_t (cl_t c_155 c_168)]) | (rw [ha2, niF_f (cl_f c_168)]) | (rw [ha2, niF_f (cl_0 c_155)])) (by omega) _ _ hX hS _ hI_q123 _ (lv_sub hl [2, 3, 0, 4, 5] rfl)
                          · skip
                            have c_130 : z = ((niC c k).R) 10 0 := c_130
                            refine lv_bif_eq (tgt := 182) hx hb dX7_pass_135 (by decide) (fun z9 => ?_) (fun z9 => absurd z9 (by decide))
                            refine lv_iincN (v := 1) (lv' := [(3, .int (nI (k + 1))), (0, .ref (ad 0 0)), (1, .int (nI n)), (2, .int (nI a2)), (4, .ref q123)]) hx hb dX7_pass_182 hl (k := 3) rfl (by decide) (by decide) rfl (fun ls hl => ?_)
                            refine lv_goto (tgt := 54) hx hb dX7_pass_185 (by decide) ?_
                            have eR : rzR (niC c k) ((niC c k).R 10 1) = (niC c (k + 1)).R := rfl
                            have eI : niI (niC c k) = (niC c (k + 1)).I := rfl
                            have eB : (niC c k).B = (niC c (k + 1)).B := rfl
                            have eWr : (niC c k).Wr = (niC c (k + 1)).Wr := rfl
                            have esh : bnS (niC c k) z = (niC c (k + 1)).sh := by rw [show z = (niC c k).R 10 0 from c_130]; rfl
                            have hX : PM E ((niC c (k + 1)).R, (niC c (k + 1)).I, (niC c (k + 1)).B, (niC c (k + 1)).Wr, (niC c (k + 1)).sh) (nI 0) ly L ad H := by rw [← eR, ← eI, ← eB, ← eWr, ← esh]; exact hX
                            refine W.widen (k := (k + 1) * 2) (n := (k + 1) * 8) (by omega) (by omega) ?_
                            exact ih54 (k + 1) a2 (by first | rfl | assumption | omega | (simp [c_8, c_20, c_33, c_45, c_56]; done) | (simp_all [c_8, c_20, c_33, c_45, c_56]; done)) (by rw [ha2, show z = (niC c k).R 10 0 from c_130]; rfl) (by omega) _ _ hX hS _ (lv_sub hl [1, 2, 3, 0] rfl)
                      have eR : rzR (niC c k) z = rzR (niC c k) ((niC c k).R 10 1) := by rw [show z = (niC c k).R 10 1 from c_90]
                      have esh : (niC c k).sh = bnS (niC c k) 0 := bnS_0
                      have hX : PM E (rzR (niC c k) ((niC c k).R 10 1), niI (niC c k), (niC c k).B, (niC c k).Wr, bnS (niC c k) 0) (nI 0) ly L ad H := by rw [← eR, ← esh]; exact hX
                      exact lp128 ((niC c k).R 10 0 - 0 + 1) 0 a (by first | rfl | assumption | omega | (simp [c_8, c_20, c_33, c_45, c_56]; done) | (simp_all [c_8, c_20, c_33, c_45, c_56]; done)) (ha) (Nat.lt_succ_self _) _ _ hX hS _ hI_q123 _ (lv_sub hl [1, 2, 3, 4, 0] rfl)
                have eR : up2 ((niC c k).R) 0 0 ((((niC c k).R) 0 0) + 1) = rzR (niC c k) 0 := rzR_0
                have eI : up2 ((niC c k).I) 0 0 ((((niC c k).I) 0 0) + (nI 5)) = niI (niC c k) := rfl
                have hX : PM E (rzR (niC c k) 0, niI (niC c k), (niC c k).B, (niC c k).Wr, (niC c k).sh) (nI 0) ly L ad H := by rw [← eR, ← eI]; exact hX
                exact lp88 ((niC c k).R 10 1 - 0 + 1) 0 (by first | rfl | assumption | omega | (simp [c_8, c_20, c_33, c_45, c_56]; done) | (simp_all [c_8, c_20, c_33, c_45, c_56]; done)) (Nat.lt_succ_self _) _ _ hX hS _ hI_q83 _ (lv_sub hl [1, 2, 3, 4, 0] rfl)
          have eR : c.R = (niC c 0).R := rfl
          have eI : c.I = (niC c 0).I := rfl
          have eB : c.B = (niC c 0).B := rfl
          have eWr : c.Wr = (niC c 0).Wr := rfl
          have esh : c.sh = (niC c 0).sh := rfl
          have hX : PM E ((niC c 0).R, (niC c 0).I, (niC c 0).B, (niC c 0).Wr, (niC c 0).sh) (nI 0) ly L ad H := by rw [← eR, ← eI, ← eB, ← eWr, ← esh]; exact hX
          refine W.widen (k := 0 * 2) (n := 0 * 8) (by omega) (by omega) ?_
          exact lp54 (n - 0 + 1) 0 0 (by first | rfl | assumption | omega | (simp [c_8, c_20, c_33, c_45]; done) | (simp_all [c_8, c_20, c_33, c_45]; done)) (rfl) (Nat.lt_succ_self _) _ _ hX hS _ (lv_sub hl [2, 3, 1, 0] rfl)
        · skip
          exact absurd (c_45.symm.trans rfl) (by decide)
      · skip
        exact absurd c_33 (by omega)
  · skip
    exact absurd (c_8.symm.trans (isIn_1 hn hn2 (by decide))) (by decide)
