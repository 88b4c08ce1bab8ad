/-! the reference's paint -/
section MPT
theorem WF_cv {R : Nat → Nat → Nat} {I : Nat → Nat → Int32} {B : Nat → Nat → Bool} {Wr : Nat → Nat → Int32} {S : Nat → Nat → Option Nat} (h : WF (R, I, B, Wr, S)) {i f t n : Nat} (hn : n < R 11 2) : WF (R, I, B, Wr, cvS S i f t n) := by
  obtain ⟨g1, g2, g3, g4, g5, g6, g7, g8, g9, g10⟩ := h
  refine ⟨g1, g2, g3, g4, g5, fun x k j hx hk hj => ?_, g7, g8, g9, g10⟩
  have hj2 : cvS S i f t n x k = some j := hj
  unfold cvS at hj2
  split at hj2
  · rw [← Option.some.inj hj2]; exact hn
  · exact g6 x k j hx hk hj2
theorem wa_n {o : Option Nat} (h : o.isSome = false) : o = none := by
  cases o with
  | none => rfl
  | some x => cases h
theorem wa_t {c : Cy} (wf : WF c) {h i f z kd j : Nat} (hi : i < c.R 11 0) (hz : z < c.R 1 i) (hf : f ≤ z) (q : c.sh i z = some j) (e : newS c i f z = true) (e2 : iswL c h j kd (permS c h i) = true) : waS c h i f z kd = some (c.R 5 j) := by
  have e3 : iswS c h i j kd = true := e2
  rw [new_s wf hi hz hf q] at e
  have e4 : anyS (shwB c i j) f (z - f) = false := by simpa using e
  unfold waS
  rw [q]
  show (if anyS (shwB c i j) f (z - f) = true then none else if iswS c h i j kd = true then some (c.R 5 j) else none) = _
  rw [e4, e3]; rfl
theorem watM_S {c : Cy} (wf : WF c) {i a b : Nat} (hi : i < c.R 11 0) (ha : a < 2 ^ 31) : watM c i a b = watS c i a b := by
  unfold watM watS mfr
  by_cases h : c.I 7 i = -1
  · have h2 : (-1 : Int32) < nI a := Int32.lt_iff_toInt_lt.mpr (by rw [nI_toInt ha, show (-1 : Int32).toInt = -1 by decide]; omega)
    rw [if_pos h, h]
    simp [h2]
  · rw [if_neg h]
    have h1 := (wf.wt hi).resolve_left h
    have h3 : ¬ c.I 6 i = -1 := fun w => h1 (by rw [w]; decide)
    simp [h3]
variable {p : Program} {l : Launch} {e : Env} {Rm : Room} {s : State} {m : MethodId} {args : Array Value} {below : List Frame} {meth : Method} {co : Code} {H H0 : Heap} {locs : List Loc} {cells slots : Nat} {Q : State → Prop}
variable {cc : ByteArray} {pc : Nat} {ls : Array Slot} {rest : List Value} {E : En} {th : Int32} {ly : Ly} {L : List Nat} {ad : Nat → Nat → Nat} {A : Nat → Prop}
theorem pR_new {D : va_G} {ct : Nat → Nat → Option va_E} {k n q : Nat} {e : va_E} (hQ : PI D (L ++ [q]) (ctu ct k n e) (up2 ad k n q) H) (hA : ∀ z, z ∈ L → A z) (hAq : A q) (hn : ct k n = none) : ∃ L2, PI D L2 (ctu ct k n e) (up2 ad k n q) H ∧ PI D L2 ct ad H ∧ (∀ z, z ∈ L2 → A z) := by
  refine ⟨L ++ [q], hQ, hQ.sub fun k' i' x hx => ?_, fun z h => (List.mem_append.mp h).elim (hA z) (fun h => by rw [List.mem_singleton.mp h]; exact hAq)⟩
  have h9 : ¬ (k' = k ∧ i' = n) := fun z => by rw [z.1, z.2, hn] at hx; cases hx
  exact ⟨(ctu_n h9).trans hx, (up2_ne ad q h9).symm⟩
theorem piM_sh {R : Nat → Nat → Nat} {I : Nat → Nat → Int32} {B : Nat → Nat → Bool} {Wr : Nat → Nat → Int32} {S : Nat → Nat → Option Nat} (hx : p.tables.exec = Jvm.exec) (hb : co.code = cc) (hC : Cs E s) (hP : PI E.1 L (cM E (R, I, B, Wr, S) th ly ad) ad H) (hS : va_S A H0 H locs) (hA : ∀ q, q ∈ L → A q) (i : Nat) (hi : i < R 11 0) {j : Nat} {y : Nat} (hy : y < R 1 i) (hy2 : R 1 i < 2 ^ 31) (hdg : decode cc pc = .ok (.iastore, 1))
    (kk : ∀ (H1 : Heap) (locs1 : List Loc), PI E.1 L (cM E (R, I, B, Wr, up2 S i y (some j)) th ly ad) ad H1 → va_S A H0 H1 locs1 → W p l e Rm s m args below meth co H1 locs1 cells slots Q (F0 m (pc + 1) ls rest)) : W p l e Rm s m args below meth co H locs cells slots Q (F0 m pc ls (.int (nI j) :: .int (nI y) :: .ref (ad 4 i) :: rest)) := by
  refine pi_iast hx hb hC hP hS hA 4 i (cM_4 hi) hy hy2 hdg (fun H1 locs1 hP1 hS1 => kk H1 locs1 ?_ hS1)
  refine hP1.ext fun k z => ?_
  unfold ctu
  by_cases q : k = 4 ∧ z = i
  · rw [if_pos q, q.1, q.2, show cM E (R, I, B, Wr, up2 S i y (some j)) th ly ad 4 i = _ from cM_4 hi]
    have : (fun k => oI (up2 S i y (some j) i k)) = upd (fun k => oI (S i k)) y (nI j) := funext fun x => by
      by_cases w : x = y
      · subst w; simp [up2, upd, oI]
      · simp [up2, upd, w]
    show some (Sum.inl (E.2 1, R 1 i, Sum.inl ((fun k => oI (up2 S i y (some j) i k))))) = _
    rw [this]
    rfl
  · rw [if_neg q]
    rcases k with _ | _ | _ | _ | _ | _ | _ | _ | k <;> first | rfl | (have q1 : ¬ z = i := fun w => q ⟨rfl, w⟩
                                                                       have q2 : (fun k => oI (up2 S i y (some j) z k)) = (fun k => oI (S z k)) := funext fun x => by rw [up2_ne S _ (fun w => q1 w.1)]
                                                                       show (if z < R 11 0 then some (Sum.inl (E.2 1, R 1 z, Sum.inl ((fun k => oI (up2 S i y (some j) z k))))) else none) = _
                                                                       rw [q2]; rfl)
section PTM
variable {c : Cy} {h i f u kd : Nat} {wb : Int32}
theorem ptI_tM (hk : ptK c h i u kd = true) {x y : Int32} (hx : x = c.I 11 h + nI (20 + 10 * kd)) (hy : y = c.I 13 h + nI 1) : up2 (up2 (ptL c h i f u kd wb).I 13 h y) 11 h x = (ptC c h i f u kd wb).I := by
  rw [up2_comm (by omega)]
  show _ = (if ptK c h i u kd = true then _ else _)
  rw [if_pos hk, hx, hy]
theorem ptI_fM (hk : ptK c h i u kd = false) : (ptL c h i f u kd wb).I = (ptC c h i f u kd wb).I := by
  show _ = (if ptK c h i u kd = true then _ else _)
  rw [if_neg (by rw [hk]; decide)]
theorem ptB_tM (hk : ptK c h i u kd = true) : up2 (ptL c h i f u kd wb).B 0 h true = (ptC c h i f u kd wb).B := by
  show _ = (if ptK c h i u kd = true then _ else _)
  rw [if_pos hk]
theorem ptB_fM (hk : ptK c h i u kd = false) : (ptL c h i f u kd wb).B = (ptC c h i f u kd wb).B := by
  show _ = (if ptK c h i u kd = true then _ else _)
  rw [if_neg (by rw [hk]; decide)]
end PTM
end MPT
set_option maxHeartbeats 4000000 in
set_option maxRecDepth 100000 in
theorem mX7_paint_g (l : Launch) {E : En} {c : Cy} {th : Int32} {ly : Ly} {L : List Nat} {ad : Nat → Nat → Nat} {H0 : Heap} (hX : PM E c th ly L ad H0) (h i f u kd : Nat) (wb : Int32) (hh : h < c.R 10 1) (hi : i < c.R 10 0) (hp : hasS c i (nI f) (nI u) = true) (hu : 1 ≤ u ∧ u ≤ 16) (hf : f + u ≤ c.R 1 i) (hkd : kd < 4) (hw : isInS wb (-2) (nI 2) = true) (hs : u * mcS c h kd ≤ 360 - c.R 3 h) (hs2 : c.R 10 2 < 60) : MuI l yX7_paint cX7_paint 13 .int (rmk 7 2 211 201) [.ref (ad 0 0), .int (nI h), .int (nI i), .int (nI f), .int (nI u), .int (nI kd), .int wb] E H0 (nI (cwrS c h i f u kd)) (fun H1 => ∃ (L2 : List Nat) (ly2 : Ly) (ad2 : Nat → Nat → Nat), PM E (ptC c h i f u kd wb) (nI 0) ly2 L2 ad2 H1 ∧ ad2 0 0 = ad 0 0 ∧ (∀ q, q ∈ L2 → q ∈ L ∨ H0.size ≤ q)) (cA L H0) 2 211 := by
  obtain ⟨hP, hly, hLb, wf, eq0, eq1, eq2⟩ := id hX
  have wfx := wf
  refine ro_of (by decide) (Nat.le_of_ble_eq_true rfl) ?_
  intro p e s m below meth co ls hx hb hr hml hown hlocks hnm hC hU hl
  have hS : va_S (cA L H0) s.heap H0 [] := by rw [hU]; exact va_S.rf
  have hA : ∀ q, q ∈ L → cA L H0 q := fun q h => Or.inl h
  have hN : ∀ q, s.heap.size ≤ q → cA L H0 q := fun q h => Or.inr (by rw [← hU]; exact h)
  have hAb : ∀ q, cA L H0 q → bA E q := fun q h => h.elim (hLb q) (fun z => Nat.le_trans hC.2.2.2.1 (by rw [hU]; exact z))
  have hl : lv_has ls 13 [(0, .ref (ad 0 0)), (1, .int (nI h)), (2, .int (nI i)), (3, .int (nI f)), (4, .int (nI u)), (5, .int (nI kd)), (6, .int wb)] := hl
  have e00 : ad 0 0 = ad 0 0 := rfl
  have hi2 : i < c.R 11 0 := by have := wf.sw; omega
  have hh2 : h < c.R 11 1 := by have := wf.sh'; omega
  have gw := wf.wd hi2
  have gm := mc_le wf (h := h) (k := kd) hh2
  have gu : u * mcS c h kd ≤ 16 * 99 := Nat.mul_le_mul hu.2 gm
  have gl := wf.nl
  have gh := wf.nh
  have gus := wf.us (i := h) hh2
  refine lv_aload_n hx hb dX7_paint_0 rfl (lv_at hl 0 rfl) ?_
  refine lv_aload_n hx hb dX7_paint_1 rfl (lv_at hl 0 rfl) ?_
  refine lv_iload_n hx hb dX7_paint_2 rfl (lv_at hl 1 rfl) ?_
  refine ro_V (As := [.int (nI h)]) (h0 := ad 0 0) (rest := [.ref (ad 0 0)]) (v := bI (!isInS (nI h) (nI 0) (nI (c.R 10 1) - nI 1))) hx hb hml hown hC hS hAb (mX7_isNoHand l hX (nI h) ) kV_X7_113 ⟨rfl, rfl⟩ ⟨Nat.le_of_ble_eq_true rfl, Nat.le_of_ble_eq_true rfl⟩ (hP.recv hC cM_0 rfl) rfl hl (Nat.le_of_ble_eq_true rfl) ⟨show _ ≤ (2 : Nat) by omega, show _ ≤ (211 : Nat) by omega⟩ dX7_paint_3 ?_
  refine lv_bif_ne (tgt := 17) hx hb dX7_paint_6 (by decide) (fun c_6 => ?_) (fun c_6 => ?_)
  · skip
    exact absurd (c_6.symm.trans (by rw [isIn_t hh (by have := wf.sw; have := wf.sh'; have := wf.sl; have := wf.nw; have := wf.nh; have := wf.nl; omega)]; rfl : (!isInS (nI h) (nI 0) (nI (c.R 10 1) - nI 1)) = false)) (by decide)
  · skip
    refine lv_aload_n hx hb dX7_paint_9 rfl (lv_at hl 0 rfl) ?_
    refine lv_iload_n hx hb dX7_paint_10 rfl (lv_at hl 2 rfl) ?_
    refine ro_V (As := [.int (nI i)]) (h0 := ad 0 0) (rest := [.ref (ad 0 0)]) (v := bI (!isInS (nI i) (nI 0) (nI (c.R 10 0) - nI 1))) hx hb hml hown hC hS hAb (mX7_isNoWall l hX (nI i) ) kV_X7_56 ⟨rfl, rfl⟩ ⟨Nat.le_of_ble_eq_true rfl, Nat.le_of_ble_eq_true rfl⟩ (hP.recv hC cM_0 rfl) rfl hl (Nat.le_of_ble_eq_true rfl) ⟨show _ ≤ (2 : Nat) by omega, show _ ≤ (211 : Nat) by omega⟩ dX7_paint_11 ?_
    refine lv_bif_eq (tgt := 21) hx hb dX7_paint_14 (by decide) (fun c_14 => ?_) (fun c_14 => ?_)
    · skip
      refine lv_iconstN hx hb 0 dX7_paint_21 (by decide) ?_
      refine lv_iconstN hx hb 1 dX7_paint_22 (by decide) ?_
      refine mu_V (As := [.int (nI 0), .int (nI 1)]) (h0 := ad 0 0) (rest := []) (v := bI false) hx hb hml hown hC hS hAb (mX7_start_f l hX 1 ) (fun q h => h.elim (hA q) (fun z => hN q (Nat.le_trans hS.1 z))) kV_X7_41 ⟨rfl, rfl⟩ ⟨Nat.le_of_ble_eq_true rfl, Nat.le_of_ble_eq_true rfl⟩ (hP.recv hC cM_0 rfl) rfl hl (Nat.le_of_ble_eq_true rfl) ⟨show 0 + 0 ≤ (2 : Nat) by omega, show 0 + 0 ≤ (211 : Nat) by omega⟩ dX7_paint_23 (fun H locs hB hS9 hz hk => ?_)
      have hS := hS9
      have hX : PM E c (nI 0) ly L ad H := hB
      obtain ⟨hP, hly, hLb, wfx, ex0, ex1, ex2⟩ := id hX
      refine lv_bif_ne (tgt := 74) hx hb dX7_paint_26 (by decide) (fun c_26 => ?_) (fun c_26 => ?_)
      · skip
        exact absurd (c_26.symm.trans rfl) (by decide)
      · skip
        refine lv_aload_n hx hb dX7_paint_29 rfl (lv_at hl 0 rfl) ?_
        refine lv_aload_n hx hb dX7_paint_30 rfl (lv_at hl 0 rfl) ?_
        refine lv_iload_n hx hb dX7_paint_31 rfl (lv_at hl 2 rfl) ?_
        refine lv_iload_n hx hb dX7_paint_32 rfl (lv_at hl 3 rfl) ?_
        refine lv_iload hx hb dX7_paint_33 (lv_at hl 4 rfl) ?_
        refine ro_V (As := [.int (nI i), .int (nI f), .int (nI u)]) (h0 := ad 0 0) (rest := [.ref (ad 0 0)]) (v := bI (npS c i (nI f) (nI u))) hx hb hml hown hC hS hAb (mX7_isNoPlace l hX i (nI f) (nI u) (show i < c.R 11 0 by first | assumption | omega | decide | (simp only [decide_eq_false_iff_not, decide_eq_true_eq] at *; omega))) kV_X7_116 ⟨rfl, rfl⟩ ⟨Nat.le_of_ble_eq_true rfl, Nat.le_of_ble_eq_true rfl⟩ (hP.recv hC cM_0 rfl) rfl hl (Nat.le_of_ble_eq_true rfl) ⟨show _ ≤ (2 : Nat) by omega, show _ ≤ (211 : Nat) by omega⟩ dX7_paint_35 ?_
        refine lv_bif_ne (tgt := 62) hx hb dX7_paint_38 (by decide) (fun c_38 => ?_) (fun c_38 => ?_)
        · skip
          exact absurd (c_38.symm.trans (by rw [np_has wf hi2, hp]; rfl : npS c i (nI f) (nI u) = false)) (by decide)
        · skip
          refine lv_iload hx hb dX7_paint_41 (lv_at hl 5 rfl) ?_
          refine lv_iconstN hx hb 0 dX7_paint_43 (by decide) ?_
          refine lv_iconstN hx hb 3 dX7_paint_44 (by decide) ?_
          refine ro_S (As := [.int (nI kd), .int (nI 0), .int (nI 3)]) (rest := [.ref (ad 0 0)]) (v := bI (isInS (nI kd) (nI 0) (nI 3))) hx hb hml hown hC hS hAb (mX7_isIn l (nI kd) (nI 0) (nI 3) ) kS_X7_37 ⟨rfl, rfl⟩ ⟨Nat.le_of_ble_eq_true rfl, Nat.le_of_ble_eq_true rfl⟩ rfl hl (Nat.le_of_ble_eq_true rfl) ⟨show _ ≤ (2 : Nat) by omega, show _ ≤ (211 : Nat) by omega⟩ dX7_paint_45 ?_
          refine lv_bif_eq (tgt := 62) hx hb dX7_paint_48 (by decide) (fun c_48 => ?_) (fun c_48 => ?_)
          · skip
            exact absurd (c_48.symm.trans (isIn_le (by omega) (by decide))) (by decide)
          · skip
            refine lv_iload hx hb dX7_paint_51 (lv_at hl 6 rfl) ?_
            refine lv_bipush (v := -2) hx hb dX7_paint_53 (by decide) ?_
            refine lv_iconstN hx hb 2 dX7_paint_55 (by decide) ?_
            refine ro_S (As := [.int wb, .int (-2), .int (nI 2)]) (rest := [.ref (ad 0 0)]) (v := bI (isInS wb (-2) (nI 2))) hx hb hml hown hC hS hAb (mX7_isIn l wb (-2) (nI 2) ) kS_X7_37 ⟨rfl, rfl⟩ ⟨Nat.le_of_ble_eq_true rfl, Nat.le_of_ble_eq_true rfl⟩ rfl hl (Nat.le_of_ble_eq_true rfl) ⟨show _ ≤ (2 : Nat) by omega, show _ ≤ (211 : Nat) by omega⟩ dX7_paint_56 ?_
            refine lv_bif_ne (tgt := 66) hx hb dX7_paint_59 (by decide) (fun c_59 => ?_) (fun c_59 => ?_)
            · skip
              refine lv_iconstN hx hb 0 dX7_paint_66 (by decide) ?_
              refine lv_iconstN hx hb 2 dX7_paint_67 (by decide) ?_
              refine mu_V (As := [.int (nI 0), .int (nI 2)]) (h0 := ad 0 0) (rest := []) (v := bI false) hx hb hml hown hC hS hAb (mX7_refuse_f l hX 2 ) (fun q h => h.elim (hA q) (fun z => hN q (Nat.le_trans hS.1 z))) kV_X7_29 ⟨rfl, rfl⟩ ⟨Nat.le_of_ble_eq_true rfl, Nat.le_of_ble_eq_true rfl⟩ (hP.recv hC cM_0 rfl) rfl hl (Nat.le_of_ble_eq_true rfl) ⟨show 0 + 0 ≤ (2 : Nat) by omega, show 0 + 0 ≤ (211 : Nat) by omega⟩ dX7_paint_68 (fun H locs hB hS9 hz hk => ?_)
              have hS := hS9
              have hX : PM E c (nI 0) ly L ad H := hB
              obtain ⟨hP, hly, hLb, wfx, ex0, ex1, ex2⟩ := id hX
              refine lv_bif_eq (tgt := 76) hx hb dX7_paint_71 (by decide) (fun c_71 => ?_) (fun c_71 => ?_)
              · skip
                refine lv_aload_n hx hb dX7_paint_76 rfl (lv_at hl 0 rfl) ?_
                refine pi_get hx hb hC hown hP fL_X7_20 0 0 cM_0 (v := .ref (ad 1 1)) rfl dX7_paint_77 ?_
                refine lv_iload_n hx hb dX7_paint_80 rfl (lv_at hl 1 rfl) ?_
                refine ro_VR (As := [.int (nI h)]) (h0 := ad 1 1) (rest := []) (v := some (ad 5 h)) hx hb hml hown hC hS hAb (mJ_get l hP 1 (cM_1 (by decide)) (fun h9 => cM_2 (by decide) h9) (hly 1 (by decide)) h (show h < c.R 10 1 by first | assumption | omega | decide | (simp only [decide_eq_false_iff_not, decide_eq_true_eq] at *; omega))) kV_X7_63 ⟨rfl, rfl⟩ ⟨Nat.le_of_ble_eq_true rfl, Nat.le_of_ble_eq_true rfl⟩ (hP.recv hC (cM_1 (i := 1) (by decide)) rfl) rfl hl (Nat.le_of_ble_eq_true rfl) ⟨show _ ≤ (2 : Nat) by omega, show _ ≤ (211 : Nat) by omega⟩ dX7_paint_81 ?_
                have hg_1 : h < c.R 11 1 := by have := wf.sh'; omega
                refine pi_cast (nm := "") hx hb hC hown hP 5 h (cM_5 hg_1) rfl wCl_X7_53 dX7_paint_84 ?_
                refine lv_astore (lv' := [(7, .ref (ad 5 h)), (0, .ref (ad 0 0)), (1, .int (nI h)), (2, .int (nI i)), (3, .int (nI f)), (4, .int (nI u)), (5, .int (nI kd)), (6, .int wb)]) hx hb dX7_paint_87 hl (by decide) rfl (fun ls hl => ?_)
                refine lv_aload hx hb dX7_paint_89 (lv_at hl 0 rfl) ?_
                refine lv_iload hx hb dX7_paint_91 (lv_at hl 5 rfl) ?_
                refine lv_iload hx hb dX7_paint_93 (lv_at hl 6 rfl) ?_
                refine ro_V (As := [.int (nI u), .int (nI kd)]) (h0 := ad 5 h) (rest := []) (v := nI (u * mcS c h kd)) hx hb hml hown hC hS hAb (mX4_minutes l hX h u kd hg_1 (show kd < 4 by first | assumption | omega | decide | (simp only [decide_eq_false_iff_not, decide_eq_true_eq] at *; omega))) kV_X7_119 ⟨rfl, rfl⟩ ⟨Nat.le_of_ble_eq_true rfl, Nat.le_of_ble_eq_true rfl⟩ (hP.recv hC (cM_5 hg_1) rfl) rfl hl (Nat.le_of_ble_eq_true rfl) ⟨show _ ≤ (2 : Nat) by omega, show _ ≤ (211 : Nat) by omega⟩ dX7_paint_95 ?_
                refine lv_istore (lv' := [(8, .int (nI (u * mcS c h kd))), (7, .ref (ad 5 h)), (0, .ref (ad 0 0)), (1, .int (nI h)), (2, .int (nI i)), (3, .int (nI f)), (4, .int (nI u)), (5, .int (nI kd)), (6, .int wb)]) hx hb dX7_paint_98 hl (by decide) rfl (fun ls hl => ?_)
                refine lv_aload_n hx hb dX7_paint_100 rfl (lv_at hl 2 rfl) ?_
                refine lv_aload hx hb dX7_paint_101 (lv_at hl 1 rfl) ?_
                refine pi_get hx hb hC hown hP fL_X7_123 5 h (cM_5 hg_1) (v := .int (nI (c.R 3 h))) rfl dX7_paint_103 ?_
                have g_2 : c.R 3 h ≤ 360 := wfx.us hg_1
                refine lv_iload hx hb dX7_paint_106 (lv_at hl 0 rfl) ?_
                refine lv_iaddN hx hb dX7_paint_108 ?_
                refine lv_sipushN hx hb 360 dX7_paint_109 (by decide) ?_
                refine lv_icmpN_gt (tgt := 127) hx hb dX7_paint_112 (by decide) (by omega) (by omega) (fun c_112 => ?_) (fun c_112 => ?_)
                · skip
                  exact absurd hs (by omega)
                · skip
                  refine lv_aload_n hx hb dX7_paint_115 rfl (lv_at hl 2 rfl) ?_
                  refine pi_get hx hb hC hown hP fL_X7_23 0 0 cM_0 (v := .ref (ad 1 2)) rfl dX7_paint_116 ?_
                  refine ro_V (As := []) (h0 := ad 1 2) (rest := [.ref (ad 0 0)]) (v := nI (c.R 10 2)) hx hb hml hown hC hS hAb (mJ_size l hP 2 (cM_1 (by decide))) kV_X7_33 ⟨rfl, rfl⟩ ⟨Nat.le_of_ble_eq_true rfl, Nat.le_of_ble_eq_true rfl⟩ (hP.recv hC (cM_1 (i := 2) (by decide)) rfl) rfl hl (Nat.le_of_ble_eq_true rfl) ⟨show _ ≤ (2 : Nat) by omega, show _ ≤ (211 : Nat) by omega⟩ dX7_paint_119 ?_
                  have g_3 := wf.sl
                  have g_4 := wf.nl
                  refine lv_bipushN hx hb 60 dX7_paint_122 (by decide) ?_
                  refine lv_icmpN_ne (tgt := 131) hx hb dX7_paint_124 (by decide) (by omega) (by omega) (fun c_124 => ?_) (fun c_124 => ?_)
                  · skip
                    refine lv_iconstN hx hb 0 dX7_paint_131 (by decide) ?_
                    refine lv_iconstN hx hb 3 dX7_paint_132 (by decide) ?_
                    refine mu_V (As := [.int (nI 0), .int (nI 3)]) (h0 := ad 0 0) (rest := []) (v := bI false) hx hb hml hown hC hS hAb (mX7_refuse_f l hX 3 ) (fun q h => h.elim (hA q) (fun z => hN q (Nat.le_trans hS.1 z))) kV_X7_29 ⟨rfl, rfl⟩ ⟨Nat.le_of_ble_eq_true rfl, Nat.le_of_ble_eq_true rfl⟩ (hP.recv hC cM_0 rfl) rfl hl (Nat.le_of_ble_eq_true rfl) ⟨show 0 + 0 ≤ (2 : Nat) by omega, show 0 + 0 ≤ (211 : Nat) by omega⟩ dX7_paint_133 (fun H locs hB hS9 hz hk => ?_)
                    have hS := hS9
                    have hX : PM E c (nI 0) ly L ad H := hB
                    obtain ⟨hP, hly, hLb, wfx, ex0, ex1, ex2⟩ := id hX
                    refine lv_bif_eq (tgt := 141) hx hb dX7_paint_136 (by decide) (fun c_136 => ?_) (fun c_136 => ?_)
                    · skip
                      refine lv_aload_n hx hb dX7_paint_141 rfl (lv_at hl 2 rfl) ?_
                      refine pi_get hx hb hC hown hP fL_X7_16 0 0 cM_0 (v := .ref (ad 1 0)) rfl dX7_paint_142 ?_
                      refine lv_iload_n hx hb dX7_paint_145 rfl (lv_at hl 4 rfl) ?_
                      refine ro_VR (As := [.int (nI i)]) (h0 := ad 1 0) (rest := []) (v := some (ad 3 i)) hx hb hml hown hC hS hAb (mJ_get l hP 0 (cM_1 (by decide)) (fun h9 => cM_2 (by decide) h9) (hly 0 (by decide)) i (show i < c.R 10 0 by first | assumption | omega | decide | (simp only [decide_eq_false_iff_not, decide_eq_true_eq] at *; omega))) kV_X7_63 ⟨rfl, rfl⟩ ⟨Nat.le_of_ble_eq_true rfl, Nat.le_of_ble_eq_true rfl⟩ (hP.recv hC (cM_1 (i := 0) (by decide)) rfl) rfl hl (Nat.le_of_ble_eq_true rfl) ⟨show _ ≤ (2 : Nat) by omega, show _ ≤ (211 : Nat) by omega⟩ dX7_paint_146 ?_
                      have hg_5 : i < c.R 11 0 := by have := wf.sw; omega
                      refine pi_cast (nm := "") hx hb hC hown hP 3 i (cM_3 hg_5) rfl wCl_X7_44 dX7_paint_149 ?_
                      refine lv_astore (lv' := [(9, .ref (ad 3 i)), (8, .int (nI (u * mcS c h kd))), (7, .ref (ad 5 h)), (0, .ref (ad 0 0)), (1, .int (nI h)), (2, .int (nI i)), (3, .int (nI f)), (4, .int (nI u)), (5, .int (nI kd)), (6, .int wb)]) hx hb dX7_paint_152 hl (by decide) rfl (fun ls hl => ?_)
                      refine lv_aload_n hx hb dX7_paint_154 rfl (lv_at hl 3 rfl) ?_
                      refine lv_iload_n hx hb dX7_paint_155 rfl (lv_at hl 4 rfl) ?_
                      refine lv_iload_n hx hb dX7_paint_156 rfl (lv_at hl 5 rfl) ?_
                      refine ro_V (As := [.int (nI h), .int (nI i)]) (h0 := ad 0 0) (rest := []) (v := bI (permS c h i)) hx hb hml hown hC hS hAb (mX7_isLegal l hX h i hg_1 hg_5) kV_X7_101 ⟨rfl, rfl⟩ ⟨Nat.le_of_ble_eq_true rfl, Nat.le_of_ble_eq_true rfl⟩ (hP.recv hC cM_0 rfl) rfl hl (Nat.le_of_ble_eq_true rfl) ⟨show _ ≤ (2 : Nat) by omega, show _ ≤ (211 : Nat) by omega⟩ dX7_paint_157 ?_
                      refine lv_istore (lv' := [(10, .int (bI (permS c h i))), (9, .ref (ad 3 i)), (8, .int (nI (u * mcS c h kd))), (7, .ref (ad 5 h)), (0, .ref (ad 0 0)), (1, .int (nI h)), (2, .int (nI i)), (3, .int (nI f)), (4, .int (nI u)), (5, .int (nI kd)), (6, .int wb)]) hx hb dX7_paint_160 hl (by decide) rfl (fun ls hl => ?_)
                      refine lv_aload_n hx hb dX7_paint_162 rfl (lv_at hl 4 rfl) ?_
                      refine lv_iload_n hx hb dX7_paint_163 rfl (lv_at hl 5 rfl) ?_
                      refine lv_iload_n hx hb dX7_paint_164 rfl (lv_at hl 6 rfl) ?_
                      refine lv_iload_n hx hb dX7_paint_165 rfl (lv_at hl 7 rfl) ?_
                      refine lv_iload hx hb dX7_paint_166 (lv_at hl 8 rfl) ?_
                      refine lv_iload hx hb dX7_paint_168 (lv_at hl 9 rfl) ?_
                      refine ro_V (As := [.int (nI h), .int (nI i), .int (nI f), .int (nI u), .int (nI kd)]) (h0 := ad 0 0) (rest := []) (v := nI (cwrS c h i f u kd)) hx hb hml hown hC hS hAb (mX7_wrongsOf l hX h i f u kd hg_1 hg_5 (show f + u ≤ c.R 1 i by first | assumption | omega | decide | (simp only [decide_eq_false_iff_not, decide_eq_true_eq] at *; omega)) (show kd < 4 by first | assumption | omega | decide | (simp only [decide_eq_false_iff_not, decide_eq_true_eq] at *; omega))) kV_X7_126 ⟨rfl, rfl⟩ ⟨Nat.le_of_ble_eq_true rfl, Nat.le_of_ble_eq_true rfl⟩ (hP.recv hC cM_0 rfl) rfl hl (Nat.le_of_ble_eq_true rfl) ⟨show _ ≤ (2 : Nat) by omega, show _ ≤ (211 : Nat) by omega⟩ dX7_paint_170 ?_
                      refine lv_istore (lv' := [(11, .int (nI (cwrS c h i f u kd))), (10, .int (bI (permS c h i))), (9, .ref (ad 3 i)), (8, .int (nI (u * mcS c h kd))), (7, .ref (ad 5 h)), (0, .ref (ad 0 0)), (1, .int (nI h)), (2, .int (nI i)), (3, .int (nI f)), (4, .int (nI u)), (5, .int (nI kd)), (6, .int wb)]) hx hb dX7_paint_173 hl (by decide) rfl (fun ls hl => ?_)
                      refine lv_iload_n hx hb dX7_paint_175 rfl (lv_at hl 8 rfl) ?_
                      refine lv_istore (lv' := [(12, .int (nI f)), (11, .int (nI (cwrS c h i f u kd))), (10, .int (bI (permS c h i))), (9, .ref (ad 3 i)), (8, .int (nI (u * mcS c h kd))), (7, .ref (ad 5 h)), (0, .ref (ad 0 0)), (1, .int (nI h)), (2, .int (nI i)), (3, .int (nI f)), (4, .int (nI u)), (5, .int (nI kd)), (6, .int wb)]) hx hb dX7_paint_176 hl (by decide) rfl (fun ls hl => ?_)
                      have lp178 : ∀ fu : Nat, ∀ (k : Nat), f ≤ k → k ≤ f + u → f + u - k < fu → ∀ (H : Heap) (locs : List Loc), PM E (c.R, c.I, c.B, dwW c h i f kd (k - f), c.sh) (nI 0) ly L ad H → va_S (cA L H0) s.heap H locs → ∀ ls : Array Slot, lv_has ls 13 [(0, .ref (ad 0 0)), (1, .int (nI h)), (2, .int (nI i)), (3, .int (nI f)), (4, .int (nI u)), (5, .int (nI kd)), (6, .int wb), (7, .ref (ad 5 h)), (8, .int (nI (u * mcS c h kd))), (9, .ref (ad 3 i)), (10, .int (bI (permS c h i))), (11, .int (nI (cwrS c h i f u kd))), (12, .int (nI k))] → W p l e (rmk 7 2 211 201) s m ([.ref (ad 0 0), .int (nI h), .int (nI i), .int (nI f), .int (nI u), .int (nI kd), .int wb] : List Value).toArray below meth co H locs 0 0 (MQ below (QiM (nI (cwrS c h i f u kd)) (fun H1 => ∃ (L2 : List Nat) (ly2 : Ly) (ad2 : Nat → Nat → Nat), PM E (ptC c h i f u kd wb) (nI 0) ly2 L2 ad2 H1 ∧ ad2 0 0 = ad 0 0 ∧ (∀ q, q ∈ L2 → q ∈ L ∨ H0.size ≤ q)) (cA L H0)) ([.ref (ad 0 0), .int (nI h), .int (nI i), .int (nI f), .int (nI u), .int (nI kd), .int wb] : List Value).toArray s 2 211 (cA L H0)) (F0 m 178 ls []) := by
                        intro fu
                        induction fu with
                        | zero => intro k hk hk2 hfu; exact absurd hfu (Nat.not_lt_zero _)
                        | succ fu ih178 =>
                          intro k hk hk2 hfu H locs hX hS ls hl
                          obtain ⟨hP, hly, hLb, wfx, ex0, ex1, ex2⟩ := id hX
                          refine lv_iload hx hb dX7_paint_178 (lv_at hl 12 rfl) ?_
                          refine lv_iload_n hx hb dX7_paint_180 rfl (lv_at hl 3 rfl) ?_
                          refine lv_iload hx hb dX7_paint_181 (lv_at hl 4 rfl) ?_
                          refine lv_iaddN hx hb dX7_paint_183 ?_
                          refine lv_icmpN_ge (tgt := 268) hx hb dX7_paint_184 (by decide) (by omega) (by omega) (fun c_184 => ?_) (fun c_184 => ?_)
                          · skip
                            refine lv_iload_n hx hb dX7_paint_268 rfl (lv_at hl 3 rfl) ?_
                            refine lv_istore (lv' := [(12, .int (nI f)), (0, .ref (ad 0 0)), (1, .int (nI h)), (2, .int (nI i)), (3, .int (nI f)), (4, .int (nI u)), (5, .int (nI kd)), (6, .int wb), (7, .ref (ad 5 h)), (8, .int (nI (u * mcS c h kd))), (9, .ref (ad 3 i)), (10, .int (bI (permS c h i))), (11, .int (nI (cwrS c h i f u kd)))]) hx hb dX7_paint_269 hl (by decide) rfl (fun ls hl => ?_)
                            have z8 : k - f = u := by omega
                            rw [z8] at hX
                            obtain ⟨hP, hly, hLb, wfx, ex0, ex1, ex2⟩ := id hX
                            have lp271 : ∀ fu : Nat, ∀ k : Nat, f ≤ k → k ≤ f + u → f + u - k < fu → ∀ (H : Heap) (locs : List Loc), PI E.1 L (cM E (c.R, c.I, c.B, dwW c h i f kd u, cvS c.sh i f k (c.R 11 2)) (nI 0) ly ad) ad H → va_S (cA L H0) s.heap H locs → ∀ ls : Array Slot, lv_has ls 13 [(0, .ref (ad 0 0)), (1, .int (nI h)), (2, .int (nI i)), (3, .int (nI f)), (4, .int (nI u)), (5, .int (nI kd)), (6, .int wb), (7, .ref (ad 5 h)), (8, .int (nI (u * mcS c h kd))), (9, .ref (ad 3 i)), (10, .int (bI (permS c h i))), (11, .int (nI (cwrS c h i f u kd))), (12, .int (nI k))] → W p l e (rmk 7 2 211 201) s m ([.ref (ad 0 0), .int (nI h), .int (nI i), .int (nI f), .int (nI u), .int (nI kd), .int wb] : List Value).toArray below meth co H locs 0 0 (MQ below (QiM (nI (cwrS c h i f u kd)) (fun H1 => ∃ (L2 : List Nat) (ly2 : Ly) (ad2 : Nat → Nat → Nat), PM E (ptC c h i f u kd wb) (nI 0) ly2 L2 ad2 H1 ∧ ad2 0 0 = ad 0 0 ∧ (∀ q, q ∈ L2 → q ∈ L ∨ H0.size ≤ q)) (cA L H0)) ([.ref (ad 0 0), .int (nI h), .int (nI i), .int (nI f), .int (nI u), .int (nI kd), .int wb] : List Value).toArray s 2 211 (cA L H0)) (F0 m 271 ls []) := by
                              intro fu
                              induction fu with
                              | zero => intro k hk hk2 hfu; exact absurd hfu (Nat.not_lt_zero _)
                              | succ fu ih271 =>
                                intro k hk hk2 hfu H locs hP hS ls hl
                                refine lv_iload hx hb dX7_paint_271 (lv_at hl 12 rfl) ?_
                                refine lv_iload_n hx hb dX7_paint_273 rfl (lv_at hl 3 rfl) ?_
                                refine lv_iload hx hb dX7_paint_274 (lv_at hl 4 rfl) ?_
                                refine lv_iaddN hx hb dX7_paint_276 ?_
                                refine lv_icmpN_ge (tgt := 301) hx hb dX7_paint_277 (by decide) (by omega) (by omega) (fun c_277 => ?_) (fun c_277 => ?_)
                                · skip
                                  have z9 : k = f + u := by omega
                                  subst z9
                                  refine lv_aload_n hx hb dX7_paint_301 rfl (lv_at hl 0 rfl) ?_
                                  refine pi_get hx hb hC hown hP fL_X7_23 0 0 cM_0 (v := .ref (ad 1 2)) rfl dX7_paint_302 ?_
                                  refine pi_newC (ci := 7) (fs := [.int (nI 0), .int (nI 0), .int (nI 0), .int (nI 0), .int (nI 0), .int (nI 0), .int (nI 0), .int (nI 0), .int (nI 0), .int (nI 0), .int (nI 0)]) (C := RX5) (T := TX5) (N := 11) hx hb hC hown hP hS hA hN wU_X5 tyX5 tyX5_ok wCl_X7_85 wIa_X5 wIn_X5 rfl (fun j hj => by match j, hj with | 0, _ => rfl | 1, _ => rfl | 2, _ => rfl | 3, _ => rfl | 4, _ => rfl | 5, _ => rfl | 6, _ => rfl | 7, _ => rfl | 8, _ => rfl | 9, _ => rfl | 10, _ => rfl) 7 (c.R 11 2) ⟨show 0 + 1 ≤ (2 : Nat) by omega, show 0 + 11 ≤ (211 : Nat) by omega⟩ dX7_paint_305 (fun q H hqL hAq hQ hS => ?_)
                                  obtain ⟨L, hQ, hP, hA⟩ := pR_new hQ hA hAq (if_neg (Nat.lt_irrefl _))
                                  have hLb := fun z h => hAb z (hA z h)
                                  refine lv_dup hx hb dX7_paint_308 rfl ?_
                                  refine lv_iload_n hx hb dX7_paint_309 rfl (lv_at hl 1 rfl) ?_
                                  refine lv_iload_n hx hb dX7_paint_310 rfl (lv_at hl 2 rfl) ?_
                                  refine lv_iload_n hx hb dX7_paint_311 rfl (lv_at hl 3 rfl) ?_
                                  refine lv_iload hx hb dX7_paint_312 (lv_at hl 4 rfl) ?_
                                  refine lv_iload hx hb dX7_paint_314 (lv_at hl 5 rfl) ?_
                                  refine lv_aload hx hb dX7_paint_316 (lv_at hl 7 rfl) ?_
                                  refine pi_get hx hb hC hown hP fL_X7_133 5 h (cM_5 hg_1) (v := .int (c.I 9 h)) rfl dX7_paint_318 ?_
                                  refine lv_iload hx hb dX7_paint_321 (lv_at hl 6 rfl) ?_
                                  refine lv_iadd hx hb dX7_paint_323 ?_
                                  refine lv_aload hx hb dX7_paint_324 (lv_at hl 7 rfl) ?_
                                  refine pi_get hx hb hC hown hP fL_X7_136 5 h (cM_5 hg_1) (v := .int (c.I 10 h)) rfl dX7_paint_326 ?_
                                  refine lv_iload hx hb dX7_paint_329 (lv_at hl 6 rfl) ?_
                                  refine lv_isub hx hb dX7_paint_331 ?_
                                  refine lv_aload_n hx hb dX7_paint_332 rfl (lv_at hl 0 rfl) ?_
                                  refine pi_get hx hb hC hown hP fL_X7_60 0 0 cM_0 (v := .int (nI (c.R 0 0))) rfl dX7_paint_333 ?_
                                  have g_6 : c.R 0 0 ≤ 400 := wfx.nt
                                  refine lv_iload hx hb dX7_paint_336 (lv_at hl 10 rfl) ?_
                                  have hM := mX5_init l 7 (c.R 11 2) hQ h i f u kd ((c.I 9 h) + wb) ((c.I 10 h) - wb) (nI (c.R 0 0)) (permS c h i)
                                  rw [up2_same] at hM
                                  refine mu_I (As := [.int (nI h), .int (nI i), .int (nI f), .int (nI u), .int (nI kd), .int ((c.I 9 h) + wb), .int ((c.I 10 h) - wb), .int (nI (c.R 0 0)), .int (bI (permS c h i))]) (h0 := q) (rest := [.ref q, .ref (ad 1 2)]) hx hb hml hown hC hS hAb hM (fun z h => h.elim (hA z) (fun h => hN z (Nat.le_trans hS.1 h))) kI_X7_139 ⟨rfl, rfl⟩ ⟨Nat.le_of_ble_eq_true rfl, Nat.le_of_ble_eq_true rfl⟩ rfl hl (Nat.le_of_ble_eq_true rfl) ⟨show 1 + 0 ≤ (2 : Nat) by omega, show 11 + 0 ≤ (211 : Nat) by omega⟩ dX7_paint_338 (fun H locs hB hS9 hz hk => ?_)
                                  have hS := hS9
                                  obtain ⟨L, ad, hX, hA, e1, e2⟩ := pM_L (c := (c.R, c.I, c.B, dwW c h i f kd u, cvS c.sh i f (f + u) (c.R 11 2))) wfx hly hg_1 hB hA hAb (WF_cv (WF_mkL wfx (show c.R 11 2 < 60 by omega) hg_1 hg_5 (by omega) (by omega) (show f + u ≤ c.R 1 i by omega)) (show c.R 11 2 < (mkL c h i f u kd wb (nI (c.R 0 0)) (permS c h i)).R 11 2 by rw [show (mkL c h i f u kd wb (nI (c.R 0 0)) (permS c h i)).R 11 2 = c.R 11 2 + 1 by simp [mkL_R, up2]]; exact Nat.lt_succ_self _))
                                  have e1 : ad 7 (c.R 11 2) = q := e1
                                  have e00 := (e2 0 0 (by omega)).trans e00
                                  have hE9 : EqM (lsC (mkL (c.R, c.I, c.B, dwW c h i f kd u, cvS c.sh i f (f + u) (c.R 11 2)) h i f u kd wb (nI (c.R 0 0)) (permS c h i)) 2) := EqM_L (c := (c.R, c.I, c.B, dwW c h i f kd u, cvS c.sh i f (f + u) (c.R 11 2))) ⟨ex0, ex1, ex2⟩
                                  obtain ⟨hP, hly, hLb, wfx⟩ := id hX
                                  have hLb := fun z h => hAb z (hA z h)
                                  have v7 : (mkL c h i f u kd wb (nI (c.R 0 0)) (permS c h i)).R 7 (c.R 11 2) = f := by simp [mkL_R, up2]
                                  have v8 : (mkL c h i f u kd wb (nI (c.R 0 0)) (permS c h i)).R 8 (c.R 11 2) = u := by simp [mkL_R, up2]
                                  have hn_7 : c.R 11 2 < (mkL c h i f u kd wb (nI (c.R 0 0)) (permS c h i)).R 11 2 := by rw [show (mkL c h i f u kd wb (nI (c.R 0 0)) (permS c h i)).R 11 2 = c.R 11 2 + 1 by simp [mkL_R, up2]]; exact Nat.lt_succ_self _
                                  have hl : lv_has ls 13 [(0, .ref (ad 0 0)), (1, .int (nI h)), (2, .int (nI i)), (3, .int (nI f)), (4, .int (nI u)), (5, .int (nI kd)), (6, .int wb), (7, .ref (ad 5 h)), (8, .int (nI (u * mcS c h kd))), (9, .ref (ad 3 i)), (10, .int (bI (permS c h i))), (11, .int (nI (cwrS c h i f u kd))), (12, .int (nI (f + u)))] := by rw [e2 0 0 (by omega), e2 5 h (by omega), e2 3 i (by omega)]; exact hl
                                  refine W.eq (g2 := F0 m 341 ls [.ref (ad 7 (c.R 11 2)), .ref (ad 1 2)]) (by rw [e1, e2 1 2 (by omega)]) ?_
                                  have hn9 : c.R 11 2 = c.R 10 2 := by omega
                                  have hM := mJ_add1 l hP hLb 2 (by decide) (n := c.R 10 2) (p := ly.2 2) (md := ly.1 2) (cM_1 (by decide)) (fun h9 => cM_2 (by decide) h9) (hly 2 (by decide)).1 (by omega) (hly 2 (by decide)).2.1 (hly 2 (by decide)).2.2 rfl (ci := 7) (C := RX5) rfl wCa_X5_O (fun j hj => ⟨_, cM_7 (Nat.lt_of_le_of_lt hj (show c.R 10 2 < (mkL c h i f u kd wb (nI (c.R 0 0)) (permS c h i)).R 11 2 by omega))⟩)
                                  rw [hn9]
                                  refine mu_V (As := [.ref (ad 7 (c.R 10 2))]) (h0 := ad 1 2) (rest := []) (v := bI true) hx hb hml hown hC hS hAb hM (fun q h => h.elim (hA q) (fun z => hN q (Nat.le_trans hS.1 z))) kV_X7_49 ⟨rfl, rfl⟩ ⟨Nat.le_of_ble_eq_true rfl, Nat.le_of_ble_eq_true rfl⟩ (hP.recv hC (cM_1 (i := 2) (by decide)) rfl) rfl hl (Nat.le_of_ble_eq_true rfl) ⟨show 1 + 1 ≤ (2 : Nat) by omega, show 11 + 200 ≤ (211 : Nat) by omega⟩ dX7_paint_341 (fun H locs hB hS9 hz hk => ?_)
                                  obtain ⟨L, ly, ad, hX, hA, e2⟩ := lM_add (by decide) hX hB rfl (show c.R 10 2 < (mkL c h i f u kd wb (nI (c.R 0 0)) (permS c h i)).R 11 2 by omega) hA (fun z h => hN z (Nat.le_trans hS.1 h)) hAb hE9
                                  have hS := hS9
                                  have e00 := (e2 0 0 (by omega)).trans e00
                                  have hX : PM E (up2 ((mkL c h i f u kd wb (nI (c.R 0 0)) (permS c h i)).R) 10 2 (c.R 10 2 + 1), (mkL c h i f u kd wb (nI (c.R 0 0)) (permS c h i)).I, (mkL c h i f u kd wb (nI (c.R 0 0)) (permS c h i)).B, dwW c h i f kd u, cvS c.sh i f (f + u) (c.R 11 2)) (nI 0) ly L ad H := hX
                                  obtain ⟨hP, hly, hLb, wfx, ex0, ex1, ex2⟩ := id hX
                                  have hl : lv_has ls 13 [(0, .ref (ad 0 0)), (1, .int (nI h)), (2, .int (nI i)), (3, .int (nI f)), (4, .int (nI u)), (5, .int (nI kd)), (6, .int wb), (7, .ref (ad 5 h)), (8, .int (nI (u * mcS c h kd))), (9, .ref (ad 3 i)), (10, .int (bI (permS c h i))), (11, .int (nI (cwrS c h i f u kd))), (12, .int (nI (f + u)))] := by rw [e2 0 0 (by omega), e2 5 h (by omega), e2 3 i (by omega)]; exact hl
                                  refine W.eq (g2 := F0 m 344 ls [.int (bI true)]) (rfl) ?_
                                  refine lv_pop hx hb dX7_paint_344 rfl ?_
                                  refine lv_iload hx hb dX7_paint_345 (lv_at hl 10 rfl) ?_
                                  refine lv_bif_ne (tgt := 400) hx hb dX7_paint_347 (by decide) (fun c_347 => ?_) (fun c_347 => ?_)
                                  · skip
                                    refine lv_aload hx hb dX7_paint_400 (lv_at hl 7 rfl) ?_
                                    refine lv_dup hx hb dX7_paint_402 rfl ?_
                                    refine pi_get hx hb hC hown hP fL_X7_123 5 h (cM_5 hg_1) (v := .int (nI (c.R 3 h))) rfl dX7_paint_403 ?_
                                    have g_8 : c.R 3 h ≤ 360 := wfx.us hg_1
                                    refine lv_iload hx hb dX7_paint_406 (lv_at hl 8 rfl) ?_
                                    refine lv_iaddN hx hb dX7_paint_408 ?_
                                    refine pwM_used (R := up2 ((mkL c h i f u kd wb (nI (c.R 0 0)) (permS c h i)).R) 10 2 (c.R 10 2 + 1)) (I := (mkL c h i f u kd wb (nI (c.R 0 0)) (permS c h i)).I) (B := (mkL c h i f u kd wb (nI (c.R 0 0)) (permS c h i)).B) (Wr := dwW c h i f kd u) (S := cvS c.sh i f (f + u) (c.R 11 2)) hx hb hC hown hX hS hA fP_X7_123 h hg_1 (v := (c.R 3 h) + (u * mcS c h kd)) (WF.uR3 wfx (by omega)) dX7_paint_409 (fun H locs hX hS => ?_)
                                    obtain ⟨hP, hly, hLb, wfx, ex0, ex1, ex2⟩ := id hX
                                    refine lv_iload hx hb dX7_paint_412 (lv_at hl 11 rfl) ?_
                                    exact mu_iret (x := nI (cwrS c h i f u kd)) hx hb hr hlocks hS (⟨L, ly, ad, (by show PM E ((ptC c h i f u kd wb).R, (ptC c h i f u kd wb).I, (ptC c h i f u kd wb).B, (ptC c h i f u kd wb).Wr, (ptC c h i f u kd wb).sh) (nI 0) ly L ad _; first | (have hk : ptK c h i u kd = true := (by simp [ptK, ← watM_S wf hi2 (show c.R 3 h < 2 ^ 31 by omega), c_6, c_14, c_26, c_38, c_48, c_59, c_71, c_112, c_124, c_136, c_184, c_347]); exact PM_eq hX rfl (ptI_tM hk rfl rfl) (ptB_tM hk) rfl rfl) | (have hk : ptK c h i u kd = false := (by simp [ptK, ← watM_S wf hi2 (show c.R 3 h < 2 ^ 31 by omega), c_6, c_14, c_26, c_38, c_48, c_59, c_71, c_112, c_124, c_136, c_184, c_347]); exact PM_eq hX rfl (ptI_fM hk) (ptB_fM hk) rfl rfl)), e00, hA⟩) (by first | rfl | (simp [c_6, c_14, c_26, c_38, c_48, c_59, c_71, c_112, c_124, c_136, c_184, c_347]; done) | (simp [c_6, c_14, c_26, c_38, c_48, c_59, c_71, c_112, c_124, c_136, c_184, c_347]; omega) | (simp_all [c_6, c_14, c_26, c_38, c_48, c_59, c_71, c_112, c_124, c_136, c_184, c_347]; done)) dX7_paint_414
                                  · skip
                                    refine lv_aload hx hb dX7_paint_350 (lv_at hl 9 rfl) ?_
                                    refine lv_aload hx hb dX7_paint_352 (lv_at hl 7 rfl) ?_
                                    refine pi_get hx hb hC hown hP fL_X7_123 5 h (cM_5 hg_1) (v := .int (nI (c.R 3 h))) rfl dX7_paint_354 ?_
                                    have g_9 : c.R 3 h ≤ 360 := wfx.us hg_1
                                    refine lv_iload hx hb dX7_paint_357 (lv_at hl 8 rfl) ?_
                                    refine ro_V (As := [.int (nI (c.R 3 h)), .int (nI (u * mcS c h kd))]) (h0 := ad 3 i) (rest := []) (v := bI (watM c i (c.R 3 h) (u * mcS c h kd))) hx hb hml hown hC hS hAb (mX6_isWatched l hX i (c.R 3 h) (u * mcS c h kd) hg_5) kV_X7_142 ⟨rfl, rfl⟩ ⟨Nat.le_of_ble_eq_true rfl, Nat.le_of_ble_eq_true rfl⟩ (hP.recv hC (cM_3 hg_5) rfl) rfl hl (Nat.le_of_ble_eq_true rfl) ⟨show _ ≤ (2 : Nat) by omega, show _ ≤ (211 : Nat) by omega⟩ dX7_paint_359 ?_
                                    refine lv_bif_eq (tgt := 400) hx hb dX7_paint_362 (by decide) (fun c_362 => ?_) (fun c_362 => ?_)
                                    · skip
                                      refine lv_aload hx hb dX7_paint_400 (lv_at hl 7 rfl) ?_
                                      refine lv_dup hx hb dX7_paint_402 rfl ?_
                                      refine pi_get hx hb hC hown hP fL_X7_123 5 h (cM_5 hg_1) (v := .int (nI (c.R 3 h))) rfl dX7_paint_403 ?_
                                      refine lv_iload hx hb dX7_paint_406 (lv_at hl 8 rfl) ?_
                                      refine lv_iaddN hx hb dX7_paint_408 ?_
                                      refine pwM_used (R := up2 ((mkL c h i f u kd wb (nI (c.R 0 0)) (permS c h i)).R) 10 2 (c.R 10 2 + 1)) (I := (mkL c h i f u kd wb (nI (c.R 0 0)) (permS c h i)).I) (B := (mkL c h i f u kd wb (nI (c.R 0 0)) (permS c h i)).B) (Wr := dwW c h i f kd u) (S := cvS c.sh i f (f + u) (c.R 11 2)) hx hb hC hown hX hS hA fP_X7_123 h hg_1 (v := (c.R 3 h) + (u * mcS c h kd)) (WF.uR3 wfx (by omega)) dX7_paint_409 (fun H locs hX hS => ?_)
                                      obtain ⟨hP, hly, hLb, wfx, ex0, ex1, ex2⟩ := id hX
                                      refine lv_iload hx hb dX7_paint_412 (lv_at hl 11 rfl) ?_
                                      exact mu_iret (x := nI (cwrS c h i f u kd)) hx hb hr hlocks hS (⟨L, ly, ad, (by show PM E ((ptC c h i f u kd wb).R, (ptC c h i f u kd wb).I, (ptC c h i f u kd wb).B, (ptC c h i f u kd wb).Wr, (ptC c h i f u kd wb).sh) (nI 0) ly L ad _; first | (have hk : ptK c h i u kd = true := (by simp [ptK, ← watM_S wf hi2 (show c.R 3 h < 2 ^ 31 by omega), c_6, c_14, c_26, c_38, c_48, c_59, c_71, c_112, c_124, c_136, c_184, c_347, c_362]); exact PM_eq hX rfl (ptI_tM hk rfl rfl) (ptB_tM hk) rfl rfl) | (have hk : ptK c h i u kd = false := (by simp [ptK, ← watM_S wf hi2 (show c.R 3 h < 2 ^ 31 by omega), c_6, c_14, c_26, c_38, c_48, c_59, c_71, c_112, c_124, c_136, c_184, c_347, c_362]); exact PM_eq hX rfl (ptI_fM hk) (ptB_fM hk) rfl rfl)), e00, hA⟩) (by first | rfl | (simp [c_6, c_14, c_26, c_38, c_48, c_59, c_71, c_112, c_124, c_136, c_184, c_347, c_362]; done) | (simp [c_6, c_14, c_26, c_38, c_48, c_59, c_71, c_112, c_124, c_136, c_184, c_347, c_362]; omega) | (simp_all [c_6, c_14, c_26, c_38, c_48, c_59, c_71, c_112, c_124, c_136, c_184, c_347, c_362]; done)) dX7_paint_414
                                    · skip
                                      refine lv_aload hx hb dX7_paint_365 (lv_at hl 7 rfl) ?_
                                      refine lv_dup hx hb dX7_paint_367 rfl ?_
                                      refine pi_get hx hb hC hown hP fL_X7_145 5 h (cM_5 hg_1) (v := .int (c.I 13 h)) rfl dX7_paint_368 ?_
                                      refine lv_iconstN hx hb 1 dX7_paint_371 (by decide) ?_
                                      refine lv_iadd hx hb dX7_paint_372 ?_
                                      refine pwM_caught (R := up2 ((mkL c h i f u kd wb (nI (c.R 0 0)) (permS c h i)).R) 10 2 (c.R 10 2 + 1)) (I := (mkL c h i f u kd wb (nI (c.R 0 0)) (permS c h i)).I) (B := (mkL c h i f u kd wb (nI (c.R 0 0)) (permS c h i)).B) (Wr := dwW c h i f kd u) (S := cvS c.sh i f (f + u) (c.R 11 2)) hx hb hC hown hX hS hA fP_X7_145 h hg_1 (v := (c.I 13 h) + (nI 1)) (WF.uI wfx (by decide)) dX7_paint_373 (fun H locs hX hS => ?_)
                                      obtain ⟨hP, hly, hLb, wfx, ex0, ex1, ex2⟩ := id hX
                                      refine lv_aload hx hb dX7_paint_376 (lv_at hl 7 rfl) ?_
                                      refine lv_dup hx hb dX7_paint_378 rfl ?_
                                      refine pi_get hx hb hC hown hP fL_X7_148 5 h (cM_5 hg_1) (v := .int (c.I 11 h)) rfl dX7_paint_379 ?_
                                      refine lv_bipushN hx hb 20 dX7_paint_382 (by decide) ?_
                                      refine lv_bipushN hx hb 10 dX7_paint_384 (by decide) ?_
                                      refine lv_iload hx hb dX7_paint_386 (lv_at hl 5 rfl) ?_
                                      refine lv_imulN hx hb dX7_paint_388 ?_
                                      refine lv_iaddN hx hb dX7_paint_389 ?_
                                      refine lv_iadd hx hb dX7_paint_390 ?_
                                      refine pwM_fines (R := up2 ((mkL c h i f u kd wb (nI (c.R 0 0)) (permS c h i)).R) 10 2 (c.R 10 2 + 1)) (I := up2 ((mkL c h i f u kd wb (nI (c.R 0 0)) (permS c h i)).I) 13 h ((c.I 13 h) + (nI 1))) (B := (mkL c h i f u kd wb (nI (c.R 0 0)) (permS c h i)).B) (Wr := dwW c h i f kd u) (S := cvS c.sh i f (f + u) (c.R 11 2)) hx hb hC hown hX hS hA fP_X7_148 h hg_1 (v := (c.I 11 h) + (nI (20 + (10 * kd)))) (WF.uI wfx (by decide)) dX7_paint_391 (fun H locs hX hS => ?_)
                                      obtain ⟨hP, hly, hLb, wfx, ex0, ex1, ex2⟩ := id hX
                                      refine lv_aload hx hb dX7_paint_394 (lv_at hl 7 rfl) ?_
                                      refine lv_iconstN hx hb 1 dX7_paint_396 (by decide) ?_
                                      refine pwM_isKnown (R := up2 ((mkL c h i f u kd wb (nI (c.R 0 0)) (permS c h i)).R) 10 2 (c.R 10 2 + 1)) (I := up2 (up2 ((mkL c h i f u kd wb (nI (c.R 0 0)) (permS c h i)).I) 13 h ((c.I 13 h) + (nI 1))) 11 h ((c.I 11 h) + (nI (20 + (10 * kd))))) (B := (mkL c h i f u kd wb (nI (c.R 0 0)) (permS c h i)).B) (Wr := dwW c h i f kd u) (S := cvS c.sh i f (f + u) (c.R 11 2)) hx hb hC hown hX hS hA fP_X7_151 h hg_1 (v := true) (WF.uB wfx _) dX7_paint_397 (fun H locs hX hS => ?_)
                                      obtain ⟨hP, hly, hLb, wfx, ex0, ex1, ex2⟩ := id hX
                                      refine lv_aload hx hb dX7_paint_400 (lv_at hl 7 rfl) ?_
                                      refine lv_dup hx hb dX7_paint_402 rfl ?_
                                      refine pi_get hx hb hC hown hP fL_X7_123 5 h (cM_5 hg_1) (v := .int (nI (c.R 3 h))) rfl dX7_paint_403 ?_
                                      have g_10 : c.R 3 h ≤ 360 := wfx.us hg_1
                                      refine lv_iload hx hb dX7_paint_406 (lv_at hl 8 rfl) ?_
                                      refine lv_iaddN hx hb dX7_paint_408 ?_
                                      refine pwM_used (R := up2 ((mkL c h i f u kd wb (nI (c.R 0 0)) (permS c h i)).R) 10 2 (c.R 10 2 + 1)) (I := up2 (up2 ((mkL c h i f u kd wb (nI (c.R 0 0)) (permS c h i)).I) 13 h ((c.I 13 h) + (nI 1))) 11 h ((c.I 11 h) + (nI (20 + (10 * kd))))) (B := up2 ((mkL c h i f u kd wb (nI (c.R 0 0)) (permS c h i)).B) 0 h true) (Wr := dwW c h i f kd u) (S := cvS c.sh i f (f + u) (c.R 11 2)) hx hb hC hown hX hS hA fP_X7_123 h hg_1 (v := (c.R 3 h) + (u * mcS c h kd)) (WF.uR3 wfx (by omega)) dX7_paint_409 (fun H locs hX hS => ?_)
                                      obtain ⟨hP, hly, hLb, wfx, ex0, ex1, ex2⟩ := id hX
                                      refine lv_iload hx hb dX7_paint_412 (lv_at hl 11 rfl) ?_
                                      exact mu_iret (x := nI (cwrS c h i f u kd)) hx hb hr hlocks hS (⟨L, ly, ad, (by show PM E ((ptC c h i f u kd wb).R, (ptC c h i f u kd wb).I, (ptC c h i f u kd wb).B, (ptC c h i f u kd wb).Wr, (ptC c h i f u kd wb).sh) (nI 0) ly L ad _; first | (have hk : ptK c h i u kd = true := (by simp [ptK, ← watM_S wf hi2 (show c.R 3 h < 2 ^ 31 by omega), c_6, c_14, c_26, c_38, c_48, c_59, c_71, c_112, c_124, c_136, c_184, c_347, c_362]); exact PM_eq hX rfl (ptI_tM hk rfl rfl) (ptB_tM hk) rfl rfl) | (have hk : ptK c h i u kd = false := (by simp [ptK, ← watM_S wf hi2 (show c.R 3 h < 2 ^ 31 by omega), c_6, c_14, c_26, c_38, c_48, c_59, c_71, c_112, c_124, c_136, c_184, c_347, c_362]); exact PM_eq hX rfl (ptI_fM hk) (ptB_fM hk) rfl rfl)), e00, hA⟩) (by first | rfl | (simp [c_6, c_14, c_26, c_38, c_48, c_59, c_71, c_112, c_124, c_136, c_184, c_347, c_362]; done) | (simp [c_6, c_14, c_26, c_38, c_48, c_59, c_71, c_112, c_124, c_136, c_184, c_347, c_362]; omega) | (simp_all [c_6, c_14, c_26, c_38, c_48, c_59, c_71, c_112, c_124, c_136, c_184, c_347, c_362]; done)) dX7_paint_414
                                · skip
                                  refine lv_aload hx hb dX7_paint_280 (lv_at hl 9 rfl) ?_
                                  refine pi_get hx hb hC hown hP fL_X7_97 3 i (cM_3 hg_5) (v := .ref (ad 4 i)) rfl dX7_paint_282 ?_
                                  have g_11 : 4 ≤ c.R 1 i ∧ c.R 1 i ≤ 16 := wfx.wd hg_5
                                  refine lv_iload hx hb dX7_paint_285 (lv_at hl 12 rfl) ?_
                                  refine lv_aload_n hx hb dX7_paint_287 rfl (lv_at hl 0 rfl) ?_
                                  refine pi_get hx hb hC hown hP fL_X7_23 0 0 cM_0 (v := .ref (ad 1 2)) rfl dX7_paint_288 ?_
                                  refine ro_V (As := []) (h0 := ad 1 2) (rest := [.int (nI k), .ref (ad 4 i)]) (v := nI (c.R 10 2)) hx hb hml hown hC hS hAb (mJ_size l hP 2 (cM_1 (by decide))) kV_X7_33 ⟨rfl, rfl⟩ ⟨Nat.le_of_ble_eq_true rfl, Nat.le_of_ble_eq_true rfl⟩ (hP.recv hC (cM_1 (i := 2) (by decide)) rfl) rfl hl (Nat.le_of_ble_eq_true rfl) ⟨show _ ≤ (2 : Nat) by omega, show _ ≤ (211 : Nat) by omega⟩ dX7_paint_291 ?_
                                  rw [show nI (c.R 10 2) = nI (c.R 11 2) by rw [eq2]]
                                  refine piM_sh hx hb hC hP hS hA i hg_5 (y := k) (show _ < c.R 1 i by omega) (show c.R 1 i < 2 ^ 31 by omega) dX7_paint_294 (fun H locs hP hS => ?_)
                                  refine lv_iincN (v := 1) (lv' := [(12, .int (nI (k + 1))), (0, .ref (ad 0 0)), (1, .int (nI h)), (2, .int (nI i)), (3, .int (nI f)), (4, .int (nI u)), (5, .int (nI kd)), (6, .int wb), (7, .ref (ad 5 h)), (8, .int (nI (u * mcS c h kd))), (9, .ref (ad 3 i)), (10, .int (bI (permS c h i))), (11, .int (nI (cwrS c h i f u kd)))]) hx hb dX7_paint_295 hl (k := 12) rfl (by decide) (by decide) rfl (fun ls hl => ?_)
                                  refine lv_goto (tgt := 271) hx hb dX7_paint_298 (by decide) ?_
                                  rw [cvS_s hk] at hP
                                  exact ih271 (k + 1) (by omega) (by omega) (by omega) _ _ hP hS _ (lv_sub hl [1, 2, 3, 4, 5, 6, 7, 8, 9, 10, 11, 12, 0] rfl)
                            exact lp271 (u + 1) f (Nat.le_refl _) (by omega) (by omega) _ _ (by rw [cvS_0]; exact hP) hS _ (lv_sub hl [1, 2, 3, 4, 5, 6, 7, 8, 9, 10, 11, 12, 0] rfl)
                          · skip
                            refine lv_aload hx hb dX7_paint_187 (lv_at hl 9 rfl) ?_
                            refine pi_get hx hb hC hown hP fL_X7_97 3 i (cM_3 hg_5) (v := .ref (ad 4 i)) rfl dX7_paint_189 ?_
                            have g_12 : 4 ≤ c.R 1 i ∧ c.R 1 i ≤ 16 := wfx.wd hg_5
                            refine lv_iload_n hx hb dX7_paint_192 rfl (lv_at hl 3 rfl) ?_
                            refine lv_iload hx hb dX7_paint_193 (lv_at hl 12 rfl) ?_
                            refine ro_S (As := [.ref (ad 4 i), .int (nI f), .int (nI k)]) (rest := []) (v := bI (newS c i f k)) hx hb hml hown hC hS hAb (mX7_isNew l hX i f k hg_5 (show k < c.R 1 i by first | assumption | omega | decide | (simp only [decide_eq_false_iff_not, decide_eq_true_eq] at *; omega)) (show f ≤ k by first | assumption | omega | decide | (simp only [decide_eq_false_iff_not, decide_eq_true_eq] at *; omega))) kS_X7_105 ⟨rfl, rfl⟩ ⟨Nat.le_of_ble_eq_true rfl, Nat.le_of_ble_eq_true rfl⟩ rfl hl (Nat.le_of_ble_eq_true rfl) ⟨show _ ≤ (2 : Nat) by omega, show _ ≤ (211 : Nat) by omega⟩ dX7_paint_195 ?_
                            refine lv_bif_eq (tgt := 262) hx hb dX7_paint_198 (by decide) (fun c_198 => ?_) (fun c_198 => ?_)
                            · skip
                              refine lv_iincN (v := 1) (lv' := [(12, .int (nI (k + 1))), (0, .ref (ad 0 0)), (1, .int (nI h)), (2, .int (nI i)), (3, .int (nI f)), (4, .int (nI u)), (5, .int (nI kd)), (6, .int wb), (7, .ref (ad 5 h)), (8, .int (nI (u * mcS c h kd))), (9, .ref (ad 3 i)), (10, .int (bI (permS c h i))), (11, .int (nI (cwrS c h i f u kd)))]) hx hb dX7_paint_262 hl (k := 12) rfl (by decide) (by decide) rfl (fun ls hl => ?_)
                              refine lv_goto (tgt := 178) hx hb dX7_paint_265 (by decide) ?_
                              have eWr : dwW c h i f kd (k - f) = dwW c h i f kd ((k + 1) - f) := by first | exact dwW_n hk (wa_n (wa_f wf hi2 (by omega) hk c_198)) | exact dwW_n hk (wa_n ((wa_s wf hi2 (by omega) hk d_218 c_198).trans c_228)) | exact dwW_s hk (wa_t wf hi2 (by omega) hk d_218 c_198 c_228)
                              have hX : PM E (c.R, c.I, c.B, dwW c h i f kd ((k + 1) - f), c.sh) (nI 0) ly L ad H := by rw [← eWr]; exact hX
                              exact ih178 (k + 1) (by first | rfl | assumption | omega | (simp [c_6, c_14, c_26, c_38, c_48, c_59, c_71, c_112, c_124, c_136, c_184, c_198]; done) | (simp_all [c_6, c_14, c_26, c_38, c_48, c_59, c_71, c_112, c_124, c_136, c_184, c_198]; done)) (by first | rfl | assumption | omega | (simp [c_6, c_14, c_26, c_38, c_48, c_59, c_71, c_112, c_124, c_136, c_184, c_198]; done) | (simp_all [c_6, c_14, c_26, c_38, c_48, c_59, c_71, c_112, c_124, c_136, c_184, c_198]; done)) (by omega) _ _ hX hS _ (lv_sub hl [1, 2, 3, 4, 5, 6, 7, 8, 9, 10, 11, 12, 0] rfl)
                            · skip
                              refine lv_aload_n hx hb dX7_paint_201 rfl (lv_at hl 0 rfl) ?_
                              refine lv_iload_n hx hb dX7_paint_202 rfl (lv_at hl 1 rfl) ?_
                              refine lv_iload hx hb dX7_paint_203 (lv_at hl 5 rfl) ?_
                              refine lv_iload hx hb dX7_paint_205 (lv_at hl 10 rfl) ?_
                              refine lv_aload_n hx hb dX7_paint_207 rfl (lv_at hl 0 rfl) ?_
                              refine pi_get hx hb hC hown hP fL_X7_23 0 0 cM_0 (v := .ref (ad 1 2)) rfl dX7_paint_208 ?_
                              refine lv_aload hx hb dX7_paint_211 (lv_at hl 9 rfl) ?_
                              refine pi_get hx hb hC hown hP fL_X7_97 3 i (cM_3 hg_5) (v := .ref (ad 4 i)) rfl dX7_paint_213 ?_
                              refine lv_iload hx hb dX7_paint_216 (lv_at hl 12 rfl) ?_
                              refine pi_iald (n := c.R 1 i) hx hb hC hP 4 i (cM_4 hg_5) (j := k) (by first | assumption | omega) (by omega) dX7_paint_218 ?_
                              rcases d_218 : c.sh i k with _ | j_218
                              · skip
                                have sd_218 : shI (c.R, c.I, c.B, dwW c h i f kd (k - f), c.sh) i k = -1 := shI_n d_218
                                rw [sd_218]
                                exact absurd c_198 (by simp [newS, (show shI c i k = -1 from sd_218)])
                              · skip
                                have sd_218 : shI (c.R, c.I, c.B, dwW c h i f kd (k - f), c.sh) i k = nI j_218 := shI_s d_218
                                rw [sd_218]
                                have hj_218 : j_218 < c.R 11 2 := wfx.sj hg_5 (show k < c.R 1 i by first | assumption | omega) d_218
                                have g_13 := wf.nl
                                refine ro_VR (As := [.int (nI j_218)]) (h0 := ad 1 2) (rest := [.int (bI (permS c h i)), .int (nI kd), .int (nI h), .ref (ad 0 0)]) (v := some (ad 7 j_218)) hx hb hml hown hC hS hAb (mJ_get l hP 2 (cM_1 (by decide)) (fun h9 => cM_2 (by decide) h9) (hly 2 (by decide)) j_218 (show j_218 < c.R 10 2 by first | assumption | omega | decide | (simp only [decide_eq_false_iff_not, decide_eq_true_eq] at *; omega))) kV_X7_63 ⟨rfl, rfl⟩ ⟨Nat.le_of_ble_eq_true rfl, Nat.le_of_ble_eq_true rfl⟩ (hP.recv hC (cM_1 (i := 2) (by decide)) rfl) rfl hl (Nat.le_of_ble_eq_true rfl) ⟨show _ ≤ (2 : Nat) by omega, show _ ≤ (211 : Nat) by omega⟩ dX7_paint_219 ?_
                                have hg_14 : j_218 < c.R 11 2 := by have := wf.sl; omega
                                refine pi_cast (nm := "") hx hb hC hown hP 7 j_218 (cM_7 hg_14) rfl wCl_X7_85 dX7_paint_222 ?_
                                refine ro_V (As := [.int (nI h), .int (nI kd), .int (bI (permS c h i)), .ref (ad 7 j_218)]) (h0 := ad 0 0) (rest := []) (v := bI (iswL c h j_218 kd (permS c h i))) hx hb hml hown hC hS hAb (mX7_isWrong l hX h kd (permS c h i) j_218 hg_1 (show kd < 4 by first | assumption | omega | decide | (simp only [decide_eq_false_iff_not, decide_eq_true_eq] at *; omega)) hg_14) kV_X7_109 ⟨rfl, rfl⟩ ⟨Nat.le_of_ble_eq_true rfl, Nat.le_of_ble_eq_true rfl⟩ (hP.recv hC cM_0 rfl) rfl hl (Nat.le_of_ble_eq_true rfl) ⟨show _ ≤ (2 : Nat) by omega, show _ ≤ (211 : Nat) by omega⟩ dX7_paint_225 ?_
                                refine lv_bif_eq (tgt := 262) hx hb dX7_paint_228 (by decide) (fun c_228 => ?_) (fun c_228 => ?_)
                                · skip
                                  refine lv_iincN (v := 1) (lv' := [(12, .int (nI (k + 1))), (0, .ref (ad 0 0)), (1, .int (nI h)), (2, .int (nI i)), (3, .int (nI f)), (4, .int (nI u)), (5, .int (nI kd)), (6, .int wb), (7, .ref (ad 5 h)), (8, .int (nI (u * mcS c h kd))), (9, .ref (ad 3 i)), (10, .int (bI (permS c h i))), (11, .int (nI (cwrS c h i f u kd)))]) hx hb dX7_paint_262 hl (k := 12) rfl (by decide) (by decide) rfl (fun ls hl => ?_)
                                  refine lv_goto (tgt := 178) hx hb dX7_paint_265 (by decide) ?_
                                  have eWr : dwW c h i f kd (k - f) = dwW c h i f kd ((k + 1) - f) := by first | exact dwW_n hk (wa_n (wa_f wf hi2 (by omega) hk c_198)) | exact dwW_n hk (wa_n ((wa_s wf hi2 (by omega) hk d_218 c_198).trans c_228)) | exact dwW_s hk (wa_t wf hi2 (by omega) hk d_218 c_198 c_228)
                                  have hX : PM E (c.R, c.I, c.B, dwW c h i f kd ((k + 1) - f), c.sh) (nI 0) ly L ad H := by rw [← eWr]; exact hX
                                  exact ih178 (k + 1) (by first | rfl | assumption | omega | (simp [c_6, c_14, c_26, c_38, c_48, c_59, c_71, c_112, c_124, c_136, c_184, c_198, d_218, c_228]; done) | (simp_all [c_6, c_14, c_26, c_38, c_48, c_59, c_71, c_112, c_124, c_136, c_184, c_198, d_218, c_228]; done)) (by first | rfl | assumption | omega | (simp [c_6, c_14, c_26, c_38, c_48, c_59, c_71, c_112, c_124, c_136, c_184, c_198, d_218, c_228]; done) | (simp_all [c_6, c_14, c_26, c_38, c_48, c_59, c_71, c_112, c_124, c_136, c_184, c_198, d_218, c_228]; done)) (by omega) _ _ hX hS _ (lv_sub hl [1, 2, 3, 4, 5, 6, 7, 8, 9, 10, 11, 12, 0] rfl)
                                · skip
                                  refine lv_aload hx hb dX7_paint_231 (lv_at hl 7 rfl) ?_
                                  refine pi_get hx hb hC hown hP fL_X7_130 5 h (cM_5 hg_1) (v := .ref (ad 6 h)) rfl dX7_paint_233 ?_
                                  refine lv_aload_n hx hb dX7_paint_236 rfl (lv_at hl 0 rfl) ?_
                                  refine pi_get hx hb hC hown hP fL_X7_23 0 0 cM_0 (v := .ref (ad 1 2)) rfl dX7_paint_237 ?_
                                  refine lv_aload hx hb dX7_paint_240 (lv_at hl 9 rfl) ?_
                                  refine pi_get hx hb hC hown hP fL_X7_97 3 i (cM_3 hg_5) (v := .ref (ad 4 i)) rfl dX7_paint_242 ?_
                                  refine lv_iload hx hb dX7_paint_245 (lv_at hl 12 rfl) ?_
                                  refine pi_iald (n := c.R 1 i) hx hb hC hP 4 i (cM_4 hg_5) (j := k) (by first | assumption | omega) (by omega) dX7_paint_247 ?_
                                  rw [sd_218]
                                  refine ro_VR (As := [.int (nI j_218)]) (h0 := ad 1 2) (rest := [.ref (ad 6 h)]) (v := some (ad 7 j_218)) hx hb hml hown hC hS hAb (mJ_get l hP 2 (cM_1 (by decide)) (fun h9 => cM_2 (by decide) h9) (hly 2 (by decide)) j_218 (show j_218 < c.R 10 2 by first | assumption | omega | decide | (simp only [decide_eq_false_iff_not, decide_eq_true_eq] at *; omega))) kV_X7_63 ⟨rfl, rfl⟩ ⟨Nat.le_of_ble_eq_true rfl, Nat.le_of_ble_eq_true rfl⟩ (hP.recv hC (cM_1 (i := 2) (by decide)) rfl) rfl hl (Nat.le_of_ble_eq_true rfl) ⟨show _ ≤ (2 : Nat) by omega, show _ ≤ (211 : Nat) by omega⟩ dX7_paint_248 ?_
                                  have hg_15 : j_218 < c.R 11 2 := by have := wf.sl; omega
                                  refine pi_cast (nm := "") hx hb hC hown hP 7 j_218 (cM_7 hg_15) rfl wCl_X7_85 dX7_paint_251 ?_
                                  refine pi_get hx hb hC hown hP fL_X7_84 7 j_218 (cM_7 hg_15) (v := .int (nI (c.R 5 j_218))) rfl dX7_paint_254 ?_
                                  have g_16 : c.R 5 j_218 < c.R 11 1 := wfx.lh hg_15
                                  refine lv_dup2_11 hx hb dX7_paint_257 rfl rfl ?_
                                  refine pi_iald hx hb hC hP 6 h (cM_6 hg_1) (j := c.R 5 j_218) (by omega) (by omega) dX7_paint_258 ?_
                                  refine lv_iconstN hx hb 1 dX7_paint_259 (by decide) ?_
                                  refine lv_iadd hx hb dX7_paint_260 ?_
                                  refine pwM_wrongs (R := c.R) (I := c.I) (B := c.B) (Wr := dwW c h i f kd (k - f)) (S := c.sh) hx hb hC hX hS hA h hg_1 (j := c.R 5 j_218) (by omega) (x := ((dwW c h i f kd (k - f)) h (c.R 5 j_218)) + (nI 1)) (WF.uW wfx (fun _ => by first | assumption | omega)) dX7_paint_261 (fun H locs hX hS => ?_)
                                  obtain ⟨hP, hly, hLb, wfx, ex0, ex1, ex2⟩ := id hX
                                  refine lv_iincN (v := 1) (lv' := [(12, .int (nI (k + 1))), (0, .ref (ad 0 0)), (1, .int (nI h)), (2, .int (nI i)), (3, .int (nI f)), (4, .int (nI u)), (5, .int (nI kd)), (6, .int wb), (7, .ref (ad 5 h)), (8, .int (nI (u * mcS c h kd))), (9, .ref (ad 3 i)), (10, .int (bI (permS c h i))), (11, .int (nI (cwrS c h i f u kd)))]) hx hb dX7_paint_262 hl (k := 12) rfl (by decide) (by decide) rfl (fun ls hl => ?_)
                                  refine lv_goto (tgt := 178) hx hb dX7_paint_265 (by decide) ?_
                                  have eWr : up2 (dwW c h i f kd (k - f)) h (c.R 5 j_218) (((dwW c h i f kd (k - f)) h (c.R 5 j_218)) + (nI 1)) = dwW c h i f kd ((k + 1) - f) := by first | exact dwW_n hk (wa_n (wa_f wf hi2 (by omega) hk c_198)) | exact dwW_n hk (wa_n ((wa_s wf hi2 (by omega) hk d_218 c_198).trans c_228)) | exact dwW_s hk (wa_t wf hi2 (by omega) hk d_218 c_198 c_228)
                                  have hX : PM E (c.R, c.I, c.B, dwW c h i f kd ((k + 1) - f), c.sh) (nI 0) ly L ad H := by rw [← eWr]; exact hX
                                  exact ih178 (k + 1) (by first | rfl | assumption | omega | (simp [c_6, c_14, c_26, c_38, c_48, c_59, c_71, c_112, c_124, c_136, c_184, c_198, d_218, c_228]; done) | (simp_all [c_6, c_14, c_26, c_38, c_48, c_59, c_71, c_112, c_124, c_136, c_184, c_198, d_218, c_228]; done)) (by first | rfl | assumption | omega | (simp [c_6, c_14, c_26, c_38, c_48, c_59, c_71, c_112, c_124, c_136, c_184, c_198, d_218, c_228]; done) | (simp_all [c_6, c_14, c_26, c_38, c_48, c_59, c_71, c_112, c_124, c_136, c_184, c_198, d_218, c_228]; done)) (by omega) _ _ hX hS _ (lv_sub hl [1, 2, 3, 4, 5, 6, 7, 8, 9, 10, 11, 12, 0] rfl)
                      have eWr : c.Wr = dwW c h i f kd (f - f) := by rw [Nat.sub_self]; rfl
                      have hX : PM E (c.R, c.I, c.B, dwW c h i f kd (f - f), c.sh) (nI 0) ly L ad H := by rw [← eWr]; exact hX
                      exact lp178 (f + u - f + 1) f (by first | rfl | assumption | omega | (simp [c_6, c_14, c_26, c_38, c_48, c_59, c_71, c_112, c_124, c_136]; done) | (simp_all [c_6, c_14, c_26, c_38, c_48, c_59, c_71, c_112, c_124, c_136]; done)) (by first | rfl | assumption | omega | (simp [c_6, c_14, c_26, c_38, c_48, c_59, c_71, c_112, c_124, c_136]; done) | (simp_all [c_6, c_14, c_26, c_38, c_48, c_59, c_71, c_112, c_124, c_136]; done)) (Nat.lt_succ_self _) _ _ hX hS _ (lv_sub hl [6, 7, 8, 9, 10, 11, 12, 5, 4, 3, 2, 1, 0] rfl)
                    · skip
                      exact absurd (c_136.symm.trans rfl) (by decide)
                  · skip
                    exact absurd hs2 (by omega)
              · skip
                exact absurd (c_71.symm.trans rfl) (by decide)
            · skip
              exact absurd (c_59.symm.trans hw) (by decide)
    · skip
      exact absurd (c_14.symm.trans (by rw [isIn_t hi (by have := wf.sw; have := wf.sh'; have := wf.sl; have := wf.nw; have := wf.nh; have := wf.nl; omega)]; rfl : (!isInS (nI i) (nI 0) (nI (c.R 10 0) - nI 1)) = false)) (by decide)
set_option maxHeartbeats 4000000 in
set_option maxRecDepth 100000 in
theorem mX7_paint_b1 (l : Launch) {E : En} {c : Cy} {th : Int32} {ly : Ly} {L : List Nat} {ad : Nat → Nat → Nat} {H0 : Heap} (hX : PM E c th ly L ad H0) (v w f u kd wb : Int32) (hv : isInS v (nI 0) (nI (c.R 10 1) - nI 1) = false) : MuI l yX7_paint cX7_paint 13 .int (rmk 2 0 0 44) [.ref (ad 0 0), .int v, .int w, .int f, .int u, .int kd, .int wb] E H0 (nI 0) (fun H1 => PM E c (nI 1) ly L ad H1) (cA L H0) 0 0 := by
  obtain ⟨hP, hly, hLb, wf, eq0, eq1, eq2⟩ := id hX
  have wfx := wf
  refine ro_of (by decide) (Nat.le_of_ble_eq_true rfl) ?_
  intro p e s m below meth co ls hx hb hr hml hown hlocks hnm hC hU hl
  have hS : va_S (cA L H0) s.heap H0 [] := by rw [hU]; exact va_S.rf
  have hA : ∀ q, q ∈ L → cA L H0 q := fun q h => Or.inl h
  have hN : ∀ q, s.heap.size ≤ q → cA L H0 q := fun q h => Or.inr (by rw [← hU]; exact h)
  have hAb : ∀ q, cA L H0 q → bA E q := fun q h => h.elim (hLb q) (fun z => Nat.le_trans hC.2.2.2.1 (by rw [hU]; exact z))
  have hl : lv_has ls 13 [(0, .ref (ad 0 0)), (1, .int v), (2, .int w), (3, .int f), (4, .int u), (5, .int kd), (6, .int wb)] := hl
  refine lv_aload_n hx hb dX7_paint_0 rfl (lv_at hl 0 rfl) ?_
  refine lv_aload_n hx hb dX7_paint_1 rfl (lv_at hl 0 rfl) ?_
  refine lv_iload_n hx hb dX7_paint_2 rfl (lv_at hl 1 rfl) ?_
  refine ro_V (As := [.int v]) (h0 := ad 0 0) (rest := [.ref (ad 0 0)]) (v := bI (!isInS v (nI 0) (nI (c.R 10 1) - nI 1))) hx hb hml hown hC hS hAb (mX7_isNoHand l hX v ) kV_X7_113 ⟨rfl, rfl⟩ ⟨Nat.le_of_ble_eq_true rfl, Nat.le_of_ble_eq_true rfl⟩ (hP.recv hC cM_0 rfl) rfl hl (Nat.le_of_ble_eq_true rfl) ⟨show _ ≤ (0 : Nat) by omega, show _ ≤ (0 : Nat) by omega⟩ dX7_paint_3 ?_
  refine lv_bif_ne (tgt := 17) hx hb dX7_paint_6 (by decide) (fun c_6 => ?_) (fun c_6 => ?_)
  · skip
    refine lv_iconstN hx hb 1 dX7_paint_17 (by decide) ?_
    refine lv_goto (tgt := 22) hx hb dX7_paint_18 (by decide) ?_
    refine lv_iconstN hx hb 1 dX7_paint_22 (by decide) ?_
    refine mu_V (As := [.int (nI 1), .int (nI 1)]) (h0 := ad 0 0) (rest := []) (v := bI true) hx hb hml hown hC hS hAb (mX7_start_t l hX 1 (show 1 ≤ 1 by first | assumption | omega | decide | (simp only [decide_eq_false_iff_not, decide_eq_true_eq] at *; omega)) (show 1 < 10 by first | assumption | omega | decide | (simp only [decide_eq_false_iff_not, decide_eq_true_eq] at *; omega))) (fun q h => h.elim (hA q) (fun z => hN q (Nat.le_trans hS.1 z))) kV_X7_41 ⟨rfl, rfl⟩ ⟨Nat.le_of_ble_eq_true rfl, Nat.le_of_ble_eq_true rfl⟩ (hP.recv hC cM_0 rfl) rfl hl (Nat.le_of_ble_eq_true rfl) ⟨show 0 + 0 ≤ (0 : Nat) by omega, show 0 + 0 ≤ (0 : Nat) by omega⟩ dX7_paint_23 (fun H locs hB hS9 hz hk => ?_)
    have hS := hS9
    have hX : PM E c (nI 1) ly L ad H := hB
    obtain ⟨hP, hly, hLb, wfx, ex0, ex1, ex2⟩ := id hX
    refine lv_bif_ne (tgt := 74) hx hb dX7_paint_26 (by decide) (fun c_26 => ?_) (fun c_26 => ?_)
    · skip
      refine lv_iconstN hx hb 0 dX7_paint_74 (by decide) ?_
      exact mu_iret (x := nI 0) hx hb hr hlocks hS (hX) (by first | rfl | (simp [c_6, c_26]; done) | (simp [c_6, c_26]; omega) | (simp_all [c_6, c_26]; done)) dX7_paint_75
    · skip
      exact absurd (c_26.symm.trans rfl) (by decide)
  · skip
    exact absurd (c_6.symm.trans (by rw [hv]; rfl : (!isInS v (nI 0) (nI (c.R 10 1) - nI 1)) = true)) (by decide)
set_option maxHeartbeats 4000000 in
set_option maxRecDepth 100000 in
theorem mX7_paint_b1w (l : Launch) {E : En} {c : Cy} {th : Int32} {ly : Ly} {L : List Nat} {ad : Nat → Nat → Nat} {H0 : Heap} (hX : PM E c th ly L ad H0) (h : Nat) (v f u kd wb : Int32) (hh : h < c.R 10 1) (hv : isInS v (nI 0) (nI (c.R 10 0) - nI 1) = false) : MuI l yX7_paint cX7_paint 13 .int (rmk 2 0 0 44) [.ref (ad 0 0), .int (nI h), .int v, .int f, .int u, .int kd, .int wb] E H0 (nI 0) (fun H1 => PM E c (nI 1) ly L ad H1) (cA L H0) 0 0 := by
  obtain ⟨hP, hly, hLb, wf, eq0, eq1, eq2⟩ := id hX
  have wfx := wf
  refine ro_of (by decide) (Nat.le_of_ble_eq_true rfl) ?_
  intro p e s m below meth co ls hx hb hr hml hown hlocks hnm hC hU hl
  have hS : va_S (cA L H0) s.heap H0 [] := by rw [hU]; exact va_S.rf
  have hA : ∀ q, q ∈ L → cA L H0 q := fun q h => Or.inl h
  have hN : ∀ q, s.heap.size ≤ q → cA L H0 q := fun q h => Or.inr (by rw [← hU]; exact h)
  have hAb : ∀ q, cA L H0 q → bA E q := fun q h => h.elim (hLb q) (fun z => Nat.le_trans hC.2.2.2.1 (by rw [hU]; exact z))
  have hl : lv_has ls 13 [(0, .ref (ad 0 0)), (1, .int (nI h)), (2, .int v), (3, .int f), (4, .int u), (5, .int kd), (6, .int wb)] := hl
  refine lv_aload_n hx hb dX7_paint_0 rfl (lv_at hl 0 rfl) ?_
  refine lv_aload_n hx hb dX7_paint_1 rfl (lv_at hl 0 rfl) ?_
  refine lv_iload_n hx hb dX7_paint_2 rfl (lv_at hl 1 rfl) ?_
  refine ro_V (As := [.int (nI h)]) (h0 := ad 0 0) (rest := [.ref (ad 0 0)]) (v := bI (!isInS (nI h) (nI 0) (nI (c.R 10 1) - nI 1))) hx hb hml hown hC hS hAb (mX7_isNoHand l hX (nI h) ) kV_X7_113 ⟨rfl, rfl⟩ ⟨Nat.le_of_ble_eq_true rfl, Nat.le_of_ble_eq_true rfl⟩ (hP.recv hC cM_0 rfl) rfl hl (Nat.le_of_ble_eq_true rfl) ⟨show _ ≤ (0 : Nat) by omega, show _ ≤ (0 : Nat) by omega⟩ dX7_paint_3 ?_
  refine lv_bif_ne (tgt := 17) hx hb dX7_paint_6 (by decide) (fun c_6 => ?_) (fun c_6 => ?_)
  · skip
    exact absurd (c_6.symm.trans (by rw [isIn_t hh (by have := wf.sw; have := wf.sh'; have := wf.sl; have := wf.nw; have := wf.nh; have := wf.nl; omega)]; rfl : (!isInS (nI h) (nI 0) (nI (c.R 10 1) - nI 1)) = false)) (by decide)
  · skip
    refine lv_aload_n hx hb dX7_paint_9 rfl (lv_at hl 0 rfl) ?_
    refine lv_iload_n hx hb dX7_paint_10 rfl (lv_at hl 2 rfl) ?_
    refine ro_V (As := [.int v]) (h0 := ad 0 0) (rest := [.ref (ad 0 0)]) (v := bI (!isInS v (nI 0) (nI (c.R 10 0) - nI 1))) hx hb hml hown hC hS hAb (mX7_isNoWall l hX v ) kV_X7_56 ⟨rfl, rfl⟩ ⟨Nat.le_of_ble_eq_true rfl, Nat.le_of_ble_eq_true rfl⟩ (hP.recv hC cM_0 rfl) rfl hl (Nat.le_of_ble_eq_true rfl) ⟨show _ ≤ (0 : Nat) by omega, show _ ≤ (0 : Nat) by omega⟩ dX7_paint_11 ?_
    refine lv_bif_eq (tgt := 21) hx hb dX7_paint_14 (by decide) (fun c_14 => ?_) (fun c_14 => ?_)
    · skip
      exact absurd (c_14.symm.trans (by rw [hv]; rfl : (!isInS v (nI 0) (nI (c.R 10 0) - nI 1)) = true)) (by decide)
    · skip
      refine lv_iconstN hx hb 1 dX7_paint_17 (by decide) ?_
      refine lv_goto (tgt := 22) hx hb dX7_paint_18 (by decide) ?_
      refine lv_iconstN hx hb 1 dX7_paint_22 (by decide) ?_
      refine mu_V (As := [.int (nI 1), .int (nI 1)]) (h0 := ad 0 0) (rest := []) (v := bI true) hx hb hml hown hC hS hAb (mX7_start_t l hX 1 (show 1 ≤ 1 by first | assumption | omega | decide | (simp only [decide_eq_false_iff_not, decide_eq_true_eq] at *; omega)) (show 1 < 10 by first | assumption | omega | decide | (simp only [decide_eq_false_iff_not, decide_eq_true_eq] at *; omega))) (fun q h => h.elim (hA q) (fun z => hN q (Nat.le_trans hS.1 z))) kV_X7_41 ⟨rfl, rfl⟩ ⟨Nat.le_of_ble_eq_true rfl, Nat.le_of_ble_eq_true rfl⟩ (hP.recv hC cM_0 rfl) rfl hl (Nat.le_of_ble_eq_true rfl) ⟨show 0 + 0 ≤ (0 : Nat) by omega, show 0 + 0 ≤ (0 : Nat) by omega⟩ dX7_paint_23 (fun H locs hB hS9 hz hk => ?_)
      have hS := hS9
      have hX : PM E c (nI 1) ly L ad H := hB
      obtain ⟨hP, hly, hLb, wfx, ex0, ex1, ex2⟩ := id hX
      refine lv_bif_ne (tgt := 74) hx hb dX7_paint_26 (by decide) (fun c_26 => ?_) (fun c_26 => ?_)
      · skip
        refine lv_iconstN hx hb 0 dX7_paint_74 (by decide) ?_
        exact mu_iret (x := nI 0) hx hb hr hlocks hS (hX) (by first | rfl | (simp [c_6, c_14, c_26]; done) | (simp [c_6, c_14, c_26]; omega) | (simp_all [c_6, c_14, c_26]; done)) dX7_paint_75
      · skip
        exact absurd (c_26.symm.trans rfl) (by decide)
set_option maxHeartbeats 4000000 in
set_option maxRecDepth 100000 in
theorem mX7_paint_b2 (l : Launch) {E : En} {c : Cy} {th : Int32} {ly : Ly} {L : List Nat} {ad : Nat → Nat → Nat} {H0 : Heap} (hX : PM E c th ly L ad H0) (h i : Nat) (f u kd wb : Int32) (hh : h < c.R 10 1) (hi : i < c.R 10 0) (ha : paiOK c i f u kd wb = false) : MuI l yX7_paint cX7_paint 13 .int (rmk 4 0 0 87) [.ref (ad 0 0), .int (nI h), .int (nI i), .int f, .int u, .int kd, .int wb] E H0 (nI 0) (fun H1 => PM E c (nI 2) ly L ad H1) (cA L H0) 0 0 := by
  obtain ⟨hP, hly, hLb, wf, eq0, eq1, eq2⟩ := id hX
  have wfx := wf
  refine ro_of (by decide) (Nat.le_of_ble_eq_true rfl) ?_
  intro p e s m below meth co ls hx hb hr hml hown hlocks hnm hC hU hl
  have hS : va_S (cA L H0) s.heap H0 [] := by rw [hU]; exact va_S.rf
  have hA : ∀ q, q ∈ L → cA L H0 q := fun q h => Or.inl h
  have hN : ∀ q, s.heap.size ≤ q → cA L H0 q := fun q h => Or.inr (by rw [← hU]; exact h)
  have hAb : ∀ q, cA L H0 q → bA E q := fun q h => h.elim (hLb q) (fun z => Nat.le_trans hC.2.2.2.1 (by rw [hU]; exact z))
  have hl : lv_has ls 13 [(0, .ref (ad 0 0)), (1, .int (nI h)), (2, .int (nI i)), (3, .int f), (4, .int u), (5, .int kd), (6, .int wb)] := hl
  have hi2 : i < c.R 11 0 := by have := wf.sw; omega
  refine lv_aload_n hx hb dX7_paint_0 rfl (lv_at hl 0 rfl) ?_
  refine lv_aload_n hx hb dX7_paint_1 rfl (lv_at hl 0 rfl) ?_
  refine lv_iload_n hx hb dX7_paint_2 rfl (lv_at hl 1 rfl) ?_
  refine ro_V (As := [.int (nI h)]) (h0 := ad 0 0) (rest := [.ref (ad 0 0)]) (v := bI (!isInS (nI h) (nI 0) (nI (c.R 10 1) - nI 1))) hx hb hml hown hC hS hAb (mX7_isNoHand l hX (nI h) ) kV_X7_113 ⟨rfl, rfl⟩ ⟨Nat.le_of_ble_eq_true rfl, Nat.le_of_ble_eq_true rfl⟩ (hP.recv hC cM_0 rfl) rfl hl (Nat.le_of_ble_eq_true rfl) ⟨show _ ≤ (0 : Nat) by omega, show _ ≤ (0 : Nat) by omega⟩ dX7_paint_3 ?_
  refine lv_bif_ne (tgt := 17) hx hb dX7_paint_6 (by decide) (fun c_6 => ?_) (fun c_6 => ?_)
  · skip
    exact absurd (c_6.symm.trans (by rw [isIn_t hh (by have := wf.sw; have := wf.sh'; have := wf.sl; have := wf.nw; have := wf.nh; have := wf.nl; omega)]; rfl : (!isInS (nI h) (nI 0) (nI (c.R 10 1) - nI 1)) = false)) (by decide)
  · skip
    refine lv_aload_n hx hb dX7_paint_9 rfl (lv_at hl 0 rfl) ?_
    refine lv_iload_n hx hb dX7_paint_10 rfl (lv_at hl 2 rfl) ?_
    refine ro_V (As := [.int (nI i)]) (h0 := ad 0 0) (rest := [.ref (ad 0 0)]) (v := bI (!isInS (nI i) (nI 0) (nI (c.R 10 0) - nI 1))) hx hb hml hown hC hS hAb (mX7_isNoWall l hX (nI i) ) kV_X7_56 ⟨rfl, rfl⟩ ⟨Nat.le_of_ble_eq_true rfl, Nat.le_of_ble_eq_true rfl⟩ (hP.recv hC cM_0 rfl) rfl hl (Nat.le_of_ble_eq_true rfl) ⟨show _ ≤ (0 : Nat) by omega, show _ ≤ (0 : Nat) by omega⟩ dX7_paint_11 ?_
    refine lv_bif_eq (tgt := 21) hx hb dX7_paint_14 (by decide) (fun c_14 => ?_) (fun c_14 => ?_)
    · skip
      refine lv_iconstN hx hb 0 dX7_paint_21 (by decide) ?_
      refine lv_iconstN hx hb 1 dX7_paint_22 (by decide) ?_
      refine mu_V (As := [.int (nI 0), .int (nI 1)]) (h0 := ad 0 0) (rest := []) (v := bI false) hx hb hml hown hC hS hAb (mX7_start_f l hX 1 ) (fun q h => h.elim (hA q) (fun z => hN q (Nat.le_trans hS.1 z))) kV_X7_41 ⟨rfl, rfl⟩ ⟨Nat.le_of_ble_eq_true rfl, Nat.le_of_ble_eq_true rfl⟩ (hP.recv hC cM_0 rfl) rfl hl (Nat.le_of_ble_eq_true rfl) ⟨show 0 + 0 ≤ (0 : Nat) by omega, show 0 + 0 ≤ (0 : Nat) by omega⟩ dX7_paint_23 (fun H locs hB hS9 hz hk => ?_)
      have hS := hS9
      have hX : PM E c (nI 0) ly L ad H := hB
      obtain ⟨hP, hly, hLb, wfx, ex0, ex1, ex2⟩ := id hX
      refine lv_bif_ne (tgt := 74) hx hb dX7_paint_26 (by decide) (fun c_26 => ?_) (fun c_26 => ?_)
      · skip
        exact absurd (c_26.symm.trans rfl) (by decide)
      · skip
        refine lv_aload_n hx hb dX7_paint_29 rfl (lv_at hl 0 rfl) ?_
        refine lv_aload_n hx hb dX7_paint_30 rfl (lv_at hl 0 rfl) ?_
        refine lv_iload_n hx hb dX7_paint_31 rfl (lv_at hl 2 rfl) ?_
        refine lv_iload_n hx hb dX7_paint_32 rfl (lv_at hl 3 rfl) ?_
        refine lv_iload hx hb dX7_paint_33 (lv_at hl 4 rfl) ?_
        refine ro_V (As := [.int (nI i), .int f, .int u]) (h0 := ad 0 0) (rest := [.ref (ad 0 0)]) (v := bI (npS c i f u)) hx hb hml hown hC hS hAb (mX7_isNoPlace l hX i f u (show i < c.R 11 0 by first | assumption | omega | decide | (simp only [decide_eq_false_iff_not, decide_eq_true_eq] at *; omega))) kV_X7_116 ⟨rfl, rfl⟩ ⟨Nat.le_of_ble_eq_true rfl, Nat.le_of_ble_eq_true rfl⟩ (hP.recv hC cM_0 rfl) rfl hl (Nat.le_of_ble_eq_true rfl) ⟨show _ ≤ (0 : Nat) by omega, show _ ≤ (0 : Nat) by omega⟩ dX7_paint_35 ?_
        refine lv_bif_ne (tgt := 62) hx hb dX7_paint_38 (by decide) (fun c_38 => ?_) (fun c_38 => ?_)
        · skip
          refine lv_iconstN hx hb 1 dX7_paint_62 (by decide) ?_
          refine lv_goto (tgt := 67) hx hb dX7_paint_63 (by decide) ?_
          refine lv_iconstN hx hb 2 dX7_paint_67 (by decide) ?_
          refine mu_V (As := [.int (nI 1), .int (nI 2)]) (h0 := ad 0 0) (rest := []) (v := bI true) hx hb hml hown hC hS hAb (mX7_refuse_t l hX 2 (show 1 ≤ 2 by first | assumption | omega | decide | (simp only [decide_eq_false_iff_not, decide_eq_true_eq] at *; omega)) (show 2 < 10 by first | assumption | omega | decide | (simp only [decide_eq_false_iff_not, decide_eq_true_eq] at *; omega))) (fun q h => h.elim (hA q) (fun z => hN q (Nat.le_trans hS.1 z))) kV_X7_29 ⟨rfl, rfl⟩ ⟨Nat.le_of_ble_eq_true rfl, Nat.le_of_ble_eq_true rfl⟩ (hP.recv hC cM_0 rfl) rfl hl (Nat.le_of_ble_eq_true rfl) ⟨show 0 + 0 ≤ (0 : Nat) by omega, show 0 + 0 ≤ (0 : Nat) by omega⟩ dX7_paint_68 (fun H locs hB hS9 hz hk => ?_)
          have hS := hS9
          have hX : PM E c (nI 2) ly L ad H := hB
          obtain ⟨hP, hly, hLb, wfx, ex0, ex1, ex2⟩ := id hX
          refine lv_bif_eq (tgt := 76) hx hb dX7_paint_71 (by decide) (fun c_71 => ?_) (fun c_71 => ?_)
          · skip
            exact absurd (c_71.symm.trans rfl) (by decide)
          · skip
            refine lv_iconstN hx hb 0 dX7_paint_74 (by decide) ?_
            exact mu_iret (x := nI 0) hx hb hr hlocks hS (hX) (by first | rfl | (simp [c_6, c_14, c_26, c_38, c_71]; done) | (simp [c_6, c_14, c_26, c_38, c_71]; omega) | (simp_all [c_6, c_14, c_26, c_38, c_71]; done)) dX7_paint_75
        · skip
          refine lv_iload hx hb dX7_paint_41 (lv_at hl 5 rfl) ?_
          refine lv_iconstN hx hb 0 dX7_paint_43 (by decide) ?_
          refine lv_iconstN hx hb 3 dX7_paint_44 (by decide) ?_
          refine ro_S (As := [.int kd, .int (nI 0), .int (nI 3)]) (rest := [.ref (ad 0 0)]) (v := bI (isInS kd (nI 0) (nI 3))) hx hb hml hown hC hS hAb (mX7_isIn l kd (nI 0) (nI 3) ) kS_X7_37 ⟨rfl, rfl⟩ ⟨Nat.le_of_ble_eq_true rfl, Nat.le_of_ble_eq_true rfl⟩ rfl hl (Nat.le_of_ble_eq_true rfl) ⟨show _ ≤ (0 : Nat) by omega, show _ ≤ (0 : Nat) by omega⟩ dX7_paint_45 ?_
          refine lv_bif_eq (tgt := 62) hx hb dX7_paint_48 (by decide) (fun c_48 => ?_) (fun c_48 => ?_)
          · skip
            refine lv_iconstN hx hb 1 dX7_paint_62 (by decide) ?_
            refine lv_goto (tgt := 67) hx hb dX7_paint_63 (by decide) ?_
            refine lv_iconstN hx hb 2 dX7_paint_67 (by decide) ?_
            refine mu_V (As := [.int (nI 1), .int (nI 2)]) (h0 := ad 0 0) (rest := []) (v := bI true) hx hb hml hown hC hS hAb (mX7_refuse_t l hX 2 (show 1 ≤ 2 by first | assumption | omega | decide | (simp only [decide_eq_false_iff_not, decide_eq_true_eq] at *; omega)) (show 2 < 10 by first | assumption | omega | decide | (simp only [decide_eq_false_iff_not, decide_eq_true_eq] at *; omega))) (fun q h => h.elim (hA q) (fun z => hN q (Nat.le_trans hS.1 z))) kV_X7_29 ⟨rfl, rfl⟩ ⟨Nat.le_of_ble_eq_true rfl, Nat.le_of_ble_eq_true rfl⟩ (hP.recv hC cM_0 rfl) rfl hl (Nat.le_of_ble_eq_true rfl) ⟨show 0 + 0 ≤ (0 : Nat) by omega, show 0 + 0 ≤ (0 : Nat) by omega⟩ dX7_paint_68 (fun H locs hB hS9 hz hk => ?_)
            have hS := hS9
            have hX : PM E c (nI 2) ly L ad H := hB
            obtain ⟨hP, hly, hLb, wfx, ex0, ex1, ex2⟩ := id hX
            refine lv_bif_eq (tgt := 76) hx hb dX7_paint_71 (by decide) (fun c_71 => ?_) (fun c_71 => ?_)
            · skip
              exact absurd (c_71.symm.trans rfl) (by decide)
            · skip
              refine lv_iconstN hx hb 0 dX7_paint_74 (by decide) ?_
              exact mu_iret (x := nI 0) hx hb hr hlocks hS (hX) (by first | rfl | (simp [c_6, c_14, c_26, c_38, c_48, c_71]; done) | (simp [c_6, c_14, c_26, c_38, c_48, c_71]; omega) | (simp_all [c_6, c_14, c_26, c_38, c_48, c_71]; done)) dX7_paint_75
          · skip
            refine lv_iload hx hb dX7_paint_51 (lv_at hl 6 rfl) ?_
            refine lv_bipush (v := -2) hx hb dX7_paint_53 (by decide) ?_
            refine lv_iconstN hx hb 2 dX7_paint_55 (by decide) ?_
            refine ro_S (As := [.int wb, .int (-2), .int (nI 2)]) (rest := [.ref (ad 0 0)]) (v := bI (isInS wb (-2) (nI 2))) hx hb hml hown hC hS hAb (mX7_isIn l wb (-2) (nI 2) ) kS_X7_37 ⟨rfl, rfl⟩ ⟨Nat.le_of_ble_eq_true rfl, Nat.le_of_ble_eq_true rfl⟩ rfl hl (Nat.le_of_ble_eq_true rfl) ⟨show _ ≤ (0 : Nat) by omega, show _ ≤ (0 : Nat) by omega⟩ dX7_paint_56 ?_
            refine lv_bif_ne (tgt := 66) hx hb dX7_paint_59 (by decide) (fun c_59 => ?_) (fun c_59 => ?_)
            · skip
              exact absurd ha (by have h8 := np_has wf hi2 (f := f) (w := u); rw [c_38] at h8; have h9 : hasS c i f u = true := (by cases h : hasS c i f u with | false => (rw [h] at h8; cases h8) | true => rfl); simp [paiOK, h9, c_6, c_14, c_26, c_38, c_48, c_59])
            · skip
              refine lv_iconstN hx hb 1 dX7_paint_62 (by decide) ?_
              refine lv_goto (tgt := 67) hx hb dX7_paint_63 (by decide) ?_
              refine lv_iconstN hx hb 2 dX7_paint_67 (by decide) ?_
              refine mu_V (As := [.int (nI 1), .int (nI 2)]) (h0 := ad 0 0) (rest := []) (v := bI true) hx hb hml hown hC hS hAb (mX7_refuse_t l hX 2 (show 1 ≤ 2 by first | assumption | omega | decide | (simp only [decide_eq_false_iff_not, decide_eq_true_eq] at *; omega)) (show 2 < 10 by first | assumption | omega | decide | (simp only [decide_eq_false_iff_not, decide_eq_true_eq] at *; omega))) (fun q h => h.elim (hA q) (fun z => hN q (Nat.le_trans hS.1 z))) kV_X7_29 ⟨rfl, rfl⟩ ⟨Nat.le_of_ble_eq_true rfl, Nat.le_of_ble_eq_true rfl⟩ (hP.recv hC cM_0 rfl) rfl hl (Nat.le_of_ble_eq_true rfl) ⟨show 0 + 0 ≤ (0 : Nat) by omega, show 0 + 0 ≤ (0 : Nat) by omega⟩ dX7_paint_68 (fun H locs hB hS9 hz hk => ?_)
              have hS := hS9
              have hX : PM E c (nI 2) ly L ad H := hB
              obtain ⟨hP, hly, hLb, wfx, ex0, ex1, ex2⟩ := id hX
              refine lv_bif_eq (tgt := 76) hx hb dX7_paint_71 (by decide) (fun c_71 => ?_) (fun c_71 => ?_)
              · skip
                exact absurd (c_71.symm.trans rfl) (by decide)
              · skip
                refine lv_iconstN hx hb 0 dX7_paint_74 (by decide) ?_
                exact mu_iret (x := nI 0) hx hb hr hlocks hS (hX) (by first | rfl | (simp [c_6, c_14, c_26, c_38, c_48, c_59, c_71]; done) | (simp [c_6, c_14, c_26, c_38, c_48, c_59, c_71]; omega) | (simp_all [c_6, c_14, c_26, c_38, c_48, c_59, c_71]; done)) dX7_paint_75
    · skip
      exact absurd (c_14.symm.trans (by rw [isIn_t hi (by have := wf.sw; have := wf.sh'; have := wf.sl; have := wf.nw; have := wf.nh; have := wf.nl; omega)]; rfl : (!isInS (nI i) (nI 0) (nI (c.R 10 0) - nI 1)) = false)) (by decide)
set_option maxHeartbeats 4000000 in
set_option maxRecDepth 100000 in
theorem mX7_paint_b3 (l : Launch) {E : En} {c : Cy} {th : Int32} {ly : Ly} {L : List Nat} {ad : Nat → Nat → Nat} {H0 : Heap} (hX : PM E c th ly L ad H0) (h i f u kd : Nat) (wb : Int32) (hh : h < c.R 10 1) (hi : i < c.R 10 0) (hp : hasS c i (nI f) (nI u) = true) (hu : u ≤ 16) (hkd : kd < 4) (hw : isInS wb (-2) (nI 2) = true) (hs : 360 - c.R 3 h < u * mcS c h kd ∨ 60 ≤ c.R 10 2) : MuI l yX7_paint cX7_paint 13 .int (rmk 4 0 0 87) [.ref (ad 0 0), .int (nI h), .int (nI i), .int (nI f), .int (nI u), .int (nI kd), .int wb] E H0 (nI 0) (fun H1 => PM E c (nI 3) ly L ad H1) (cA L H0) 0 0 := by
  obtain ⟨hP, hly, hLb, wf, eq0, eq1, eq2⟩ := id hX
  have wfx := wf
  refine ro_of (by decide) (Nat.le_of_ble_eq_true rfl) ?_
  intro p e s m below meth co ls hx hb hr hml hown hlocks hnm hC hU hl
  have hS : va_S (cA L H0) s.heap H0 [] := by rw [hU]; exact va_S.rf
  have hA : ∀ q, q ∈ L → cA L H0 q := fun q h => Or.inl h
  have hN : ∀ q, s.heap.size ≤ q → cA L H0 q := fun q h => Or.inr (by rw [← hU]; exact h)
  have hAb : ∀ q, cA L H0 q → bA E q := fun q h => h.elim (hLb q) (fun z => Nat.le_trans hC.2.2.2.1 (by rw [hU]; exact z))
  have hl : lv_has ls 13 [(0, .ref (ad 0 0)), (1, .int (nI h)), (2, .int (nI i)), (3, .int (nI f)), (4, .int (nI u)), (5, .int (nI kd)), (6, .int wb)] := hl
  have hi2 : i < c.R 11 0 := by have := wf.sw; omega
  have hh2 : h < c.R 11 1 := by have := wf.sh'; omega
  have gm := mc_le wf (h := h) (k := kd) hh2
  have gu : u * mcS c h kd ≤ 16 * 99 := Nat.mul_le_mul hu gm
  have gl := wf.nl
  have gsl := wf.sl
  have gus := wf.us (i := h) hh2
  refine lv_aload_n hx hb dX7_paint_0 rfl (lv_at hl 0 rfl) ?_
  refine lv_aload_n hx hb dX7_paint_1 rfl (lv_at hl 0 rfl) ?_
  refine lv_iload_n hx hb dX7_paint_2 rfl (lv_at hl 1 rfl) ?_
  refine ro_V (As := [.int (nI h)]) (h0 := ad 0 0) (rest := [.ref (ad 0 0)]) (v := bI (!isInS (nI h) (nI 0) (nI (c.R 10 1) - nI 1))) hx hb hml hown hC hS hAb (mX7_isNoHand l hX (nI h) ) kV_X7_113 ⟨rfl, rfl⟩ ⟨Nat.le_of_ble_eq_true rfl, Nat.le_of_ble_eq_true rfl⟩ (hP.recv hC cM_0 rfl) rfl hl (Nat.le_of_ble_eq_true rfl) ⟨show _ ≤ (0 : Nat) by omega, show _ ≤ (0 : Nat) by omega⟩ dX7_paint_3 ?_
  refine lv_bif_ne (tgt := 17) hx hb dX7_paint_6 (by decide) (fun c_6 => ?_) (fun c_6 => ?_)
  · skip
    exact absurd (c_6.symm.trans (by rw [isIn_t hh (by have := wf.sw; have := wf.sh'; have := wf.sl; have := wf.nw; have := wf.nh; have := wf.nl; omega)]; rfl : (!isInS (nI h) (nI 0) (nI (c.R 10 1) - nI 1)) = false)) (by decide)
  · skip
    refine lv_aload_n hx hb dX7_paint_9 rfl (lv_at hl 0 rfl) ?_
    refine lv_iload_n hx hb dX7_paint_10 rfl (lv_at hl 2 rfl) ?_
    refine ro_V (As := [.int (nI i)]) (h0 := ad 0 0) (rest := [.ref (ad 0 0)]) (v := bI (!isInS (nI i) (nI 0) (nI (c.R 10 0) - nI 1))) hx hb hml hown hC hS hAb (mX7_isNoWall l hX (nI i) ) kV_X7_56 ⟨rfl, rfl⟩ ⟨Nat.le_of_ble_eq_true rfl, Nat.le_of_ble_eq_true rfl⟩ (hP.recv hC cM_0 rfl) rfl hl (Nat.le_of_ble_eq_true rfl) ⟨show _ ≤ (0 : Nat) by omega, show _ ≤ (0 : Nat) by omega⟩ dX7_paint_11 ?_
    refine lv_bif_eq (tgt := 21) hx hb dX7_paint_14 (by decide) (fun c_14 => ?_) (fun c_14 => ?_)
    · skip
      refine lv_iconstN hx hb 0 dX7_paint_21 (by decide) ?_
      refine lv_iconstN hx hb 1 dX7_paint_22 (by decide) ?_
      refine mu_V (As := [.int (nI 0), .int (nI 1)]) (h0 := ad 0 0) (rest := []) (v := bI false) hx hb hml hown hC hS hAb (mX7_start_f l hX 1 ) (fun q h => h.elim (hA q) (fun z => hN q (Nat.le_trans hS.1 z))) kV_X7_41 ⟨rfl, rfl⟩ ⟨Nat.le_of_ble_eq_true rfl, Nat.le_of_ble_eq_true rfl⟩ (hP.recv hC cM_0 rfl) rfl hl (Nat.le_of_ble_eq_true rfl) ⟨show 0 + 0 ≤ (0 : Nat) by omega, show 0 + 0 ≤ (0 : Nat) by omega⟩ dX7_paint_23 (fun H locs hB hS9 hz hk => ?_)
      have hS := hS9
      have hX : PM E c (nI 0) ly L ad H := hB
      obtain ⟨hP, hly, hLb, wfx, ex0, ex1, ex2⟩ := id hX
      refine lv_bif_ne (tgt := 74) hx hb dX7_paint_26 (by decide) (fun c_26 => ?_) (fun c_26 => ?_)
      · skip
        exact absurd (c_26.symm.trans rfl) (by decide)
      · skip
        refine lv_aload_n hx hb dX7_paint_29 rfl (lv_at hl 0 rfl) ?_
        refine lv_aload_n hx hb dX7_paint_30 rfl (lv_at hl 0 rfl) ?_
        refine lv_iload_n hx hb dX7_paint_31 rfl (lv_at hl 2 rfl) ?_
        refine lv_iload_n hx hb dX7_paint_32 rfl (lv_at hl 3 rfl) ?_
        refine lv_iload hx hb dX7_paint_33 (lv_at hl 4 rfl) ?_
        refine ro_V (As := [.int (nI i), .int (nI f), .int (nI u)]) (h0 := ad 0 0) (rest := [.ref (ad 0 0)]) (v := bI (npS c i (nI f) (nI u))) hx hb hml hown hC hS hAb (mX7_isNoPlace l hX i (nI f) (nI u) (show i < c.R 11 0 by first | assumption | omega | decide | (simp only [decide_eq_false_iff_not, decide_eq_true_eq] at *; omega))) kV_X7_116 ⟨rfl, rfl⟩ ⟨Nat.le_of_ble_eq_true rfl, Nat.le_of_ble_eq_true rfl⟩ (hP.recv hC cM_0 rfl) rfl hl (Nat.le_of_ble_eq_true rfl) ⟨show _ ≤ (0 : Nat) by omega, show _ ≤ (0 : Nat) by omega⟩ dX7_paint_35 ?_
        refine lv_bif_ne (tgt := 62) hx hb dX7_paint_38 (by decide) (fun c_38 => ?_) (fun c_38 => ?_)
        · skip
          exact absurd (c_38.symm.trans (by rw [np_has wf hi2, hp]; rfl : npS c i (nI f) (nI u) = false)) (by decide)
        · skip
          refine lv_iload hx hb dX7_paint_41 (lv_at hl 5 rfl) ?_
          refine lv_iconstN hx hb 0 dX7_paint_43 (by decide) ?_
          refine lv_iconstN hx hb 3 dX7_paint_44 (by decide) ?_
          refine ro_S (As := [.int (nI kd), .int (nI 0), .int (nI 3)]) (rest := [.ref (ad 0 0)]) (v := bI (isInS (nI kd) (nI 0) (nI 3))) hx hb hml hown hC hS hAb (mX7_isIn l (nI kd) (nI 0) (nI 3) ) kS_X7_37 ⟨rfl, rfl⟩ ⟨Nat.le_of_ble_eq_true rfl, Nat.le_of_ble_eq_true rfl⟩ rfl hl (Nat.le_of_ble_eq_true rfl) ⟨show _ ≤ (0 : Nat) by omega, show _ ≤ (0 : Nat) by omega⟩ dX7_paint_45 ?_
          refine lv_bif_eq (tgt := 62) hx hb dX7_paint_48 (by decide) (fun c_48 => ?_) (fun c_48 => ?_)
          · skip
            exact absurd (c_48.symm.trans (isIn_le (by omega) (by decide))) (by decide)
          · skip
            refine lv_iload hx hb dX7_paint_51 (lv_at hl 6 rfl) ?_
            refine lv_bipush (v := -2) hx hb dX7_paint_53 (by decide) ?_
            refine lv_iconstN hx hb 2 dX7_paint_55 (by decide) ?_
            refine ro_S (As := [.int wb, .int (-2), .int (nI 2)]) (rest := [.ref (ad 0 0)]) (v := bI (isInS wb (-2) (nI 2))) hx hb hml hown hC hS hAb (mX7_isIn l wb (-2) (nI 2) ) kS_X7_37 ⟨rfl, rfl⟩ ⟨Nat.le_of_ble_eq_true rfl, Nat.le_of_ble_eq_true rfl⟩ rfl hl (Nat.le_of_ble_eq_true rfl) ⟨show _ ≤ (0 : Nat) by omega, show _ ≤ (0 : Nat) by omega⟩ dX7_paint_56 ?_
            refine lv_bif_ne (tgt := 66) hx hb dX7_paint_59 (by decide) (fun c_59 => ?_) (fun c_59 => ?_)
            · skip
              refine lv_iconstN hx hb 0 dX7_paint_66 (by decide) ?_
              refine lv_iconstN hx hb 2 dX7_paint_67 (by decide) ?_
              refine mu_V (As := [.int (nI 0), .int (nI 2)]) (h0 := ad 0 0) (rest := []) (v := bI false) hx hb hml hown hC hS hAb (mX7_refuse_f l hX 2 ) (fun q h => h.elim (hA q) (fun z => hN q (Nat.le_trans hS.1 z))) kV_X7_29 ⟨rfl, rfl⟩ ⟨Nat.le_of_ble_eq_true rfl, Nat.le_of_ble_eq_true rfl⟩ (hP.recv hC cM_0 rfl) rfl hl (Nat.le_of_ble_eq_true rfl) ⟨show 0 + 0 ≤ (0 : Nat) by omega, show 0 + 0 ≤ (0 : Nat) by omega⟩ dX7_paint_68 (fun H locs hB hS9 hz hk => ?_)
              have hS := hS9
              have hX : PM E c (nI 0) ly L ad H := hB
              obtain ⟨hP, hly, hLb, wfx, ex0, ex1, ex2⟩ := id hX
              refine lv_bif_eq (tgt := 76) hx hb dX7_paint_71 (by decide) (fun c_71 => ?_) (fun c_71 => ?_)
              · skip
                refine lv_aload_n hx hb dX7_paint_76 rfl (lv_at hl 0 rfl) ?_
                refine pi_get hx hb hC hown hP fL_X7_20 0 0 cM_0 (v := .ref (ad 1 1)) rfl dX7_paint_77 ?_
                refine lv_iload_n hx hb dX7_paint_80 rfl (lv_at hl 1 rfl) ?_
                refine ro_VR (As := [.int (nI h)]) (h0 := ad 1 1) (rest := []) (v := some (ad 5 h)) hx hb hml hown hC hS hAb (mJ_get l hP 1 (cM_1 (by decide)) (fun h9 => cM_2 (by decide) h9) (hly 1 (by decide)) h (show h < c.R 10 1 by first | assumption | omega | decide | (simp only [decide_eq_false_iff_not, decide_eq_true_eq] at *; omega))) kV_X7_63 ⟨rfl, rfl⟩ ⟨Nat.le_of_ble_eq_true rfl, Nat.le_of_ble_eq_true rfl⟩ (hP.recv hC (cM_1 (i := 1) (by decide)) rfl) rfl hl (Nat.le_of_ble_eq_true rfl) ⟨show _ ≤ (0 : Nat) by omega, show _ ≤ (0 : Nat) by omega⟩ dX7_paint_81 ?_
                have hg_1 : h < c.R 11 1 := by have := wf.sh'; omega
                refine pi_cast (nm := "") hx hb hC hown hP 5 h (cM_5 hg_1) rfl wCl_X7_53 dX7_paint_84 ?_
                refine lv_astore (lv' := [(7, .ref (ad 5 h)), (0, .ref (ad 0 0)), (1, .int (nI h)), (2, .int (nI i)), (3, .int (nI f)), (4, .int (nI u)), (5, .int (nI kd)), (6, .int wb)]) hx hb dX7_paint_87 hl (by decide) rfl (fun ls hl => ?_)
                refine lv_aload hx hb dX7_paint_89 (lv_at hl 0 rfl) ?_
                refine lv_iload hx hb dX7_paint_91 (lv_at hl 5 rfl) ?_
                refine lv_iload hx hb dX7_paint_93 (lv_at hl 6 rfl) ?_
                refine ro_V (As := [.int (nI u), .int (nI kd)]) (h0 := ad 5 h) (rest := []) (v := nI (u * mcS c h kd)) hx hb hml hown hC hS hAb (mX4_minutes l hX h u kd hg_1 (show kd < 4 by first | assumption | omega | decide | (simp only [decide_eq_false_iff_not, decide_eq_true_eq] at *; omega))) kV_X7_119 ⟨rfl, rfl⟩ ⟨Nat.le_of_ble_eq_true rfl, Nat.le_of_ble_eq_true rfl⟩ (hP.recv hC (cM_5 hg_1) rfl) rfl hl (Nat.le_of_ble_eq_true rfl) ⟨show _ ≤ (0 : Nat) by omega, show _ ≤ (0 : Nat) by omega⟩ dX7_paint_95 ?_
                refine lv_istore (lv' := [(8, .int (nI (u * mcS c h kd))), (7, .ref (ad 5 h)), (0, .ref (ad 0 0)), (1, .int (nI h)), (2, .int (nI i)), (3, .int (nI f)), (4, .int (nI u)), (5, .int (nI kd)), (6, .int wb)]) hx hb dX7_paint_98 hl (by decide) rfl (fun ls hl => ?_)
                refine lv_aload_n hx hb dX7_paint_100 rfl (lv_at hl 2 rfl) ?_
                refine lv_aload hx hb dX7_paint_101 (lv_at hl 1 rfl) ?_
                refine pi_get hx hb hC hown hP fL_X7_123 5 h (cM_5 hg_1) (v := .int (nI (c.R 3 h))) rfl dX7_paint_103 ?_
                have g_2 : c.R 3 h ≤ 360 := wfx.us hg_1
                refine lv_iload hx hb dX7_paint_106 (lv_at hl 0 rfl) ?_
                refine lv_iaddN hx hb dX7_paint_108 ?_
                refine lv_sipushN hx hb 360 dX7_paint_109 (by decide) ?_
                refine lv_icmpN_gt (tgt := 127) hx hb dX7_paint_112 (by decide) (by omega) (by omega) (fun c_112 => ?_) (fun c_112 => ?_)
                · skip
                  refine lv_iconstN hx hb 1 dX7_paint_127 (by decide) ?_
                  refine lv_goto (tgt := 132) hx hb dX7_paint_128 (by decide) ?_
                  refine lv_iconstN hx hb 3 dX7_paint_132 (by decide) ?_
                  refine mu_V (As := [.int (nI 1), .int (nI 3)]) (h0 := ad 0 0) (rest := []) (v := bI true) hx hb hml hown hC hS hAb (mX7_refuse_t l hX 3 (show 1 ≤ 3 by first | assumption | omega | decide | (simp only [decide_eq_false_iff_not, decide_eq_true_eq] at *; omega)) (show 3 < 10 by first | assumption | omega | decide | (simp only [decide_eq_false_iff_not, decide_eq_true_eq] at *; omega))) (fun q h => h.elim (hA q) (fun z => hN q (Nat.le_trans hS.1 z))) kV_X7_29 ⟨rfl, rfl⟩ ⟨Nat.le_of_ble_eq_true rfl, Nat.le_of_ble_eq_true rfl⟩ (hP.recv hC cM_0 rfl) rfl hl (Nat.le_of_ble_eq_true rfl) ⟨show 0 + 0 ≤ (0 : Nat) by omega, show 0 + 0 ≤ (0 : Nat) by omega⟩ dX7_paint_133 (fun H locs hB hS9 hz hk => ?_)
                  have hS := hS9
                  have hX : PM E c (nI 3) ly L ad H := hB
                  obtain ⟨hP, hly, hLb, wfx, ex0, ex1, ex2⟩ := id hX
                  refine lv_bif_eq (tgt := 141) hx hb dX7_paint_136 (by decide) (fun c_136 => ?_) (fun c_136 => ?_)
                  · skip
                    exact absurd (c_136.symm.trans rfl) (by decide)
                  · skip
                    refine lv_iconstN hx hb 0 dX7_paint_139 (by decide) ?_
                    exact mu_iret (x := nI 0) hx hb hr hlocks hS (hX) (by first | rfl | (simp [c_6, c_14, c_26, c_38, c_48, c_59, c_71, c_112, c_136]; done) | (simp [c_6, c_14, c_26, c_38, c_48, c_59, c_71, c_112, c_136]; omega) | (simp_all [c_6, c_14, c_26, c_38, c_48, c_59, c_71, c_112, c_136]; done)) dX7_paint_140
                · skip
                  refine lv_aload_n hx hb dX7_paint_115 rfl (lv_at hl 2 rfl) ?_
                  refine pi_get hx hb hC hown hP fL_X7_23 0 0 cM_0 (v := .ref (ad 1 2)) rfl dX7_paint_116 ?_
                  refine ro_V (As := []) (h0 := ad 1 2) (rest := [.ref (ad 0 0)]) (v := nI (c.R 10 2)) hx hb hml hown hC hS hAb (mJ_size l hP 2 (cM_1 (by decide))) kV_X7_33 ⟨rfl, rfl⟩ ⟨Nat.le_of_ble_eq_true rfl, Nat.le_of_ble_eq_true rfl⟩ (hP.recv hC (cM_1 (i := 2) (by decide)) rfl) rfl hl (Nat.le_of_ble_eq_true rfl) ⟨show _ ≤ (0 : Nat) by omega, show _ ≤ (0 : Nat) by omega⟩ dX7_paint_119 ?_
                  have g_3 := wf.sl
                  have g_4 := wf.nl
                  refine lv_bipushN hx hb 60 dX7_paint_122 (by decide) ?_
                  refine lv_icmpN_ne (tgt := 131) hx hb dX7_paint_124 (by decide) (by omega) (by omega) (fun c_124 => ?_) (fun c_124 => ?_)
                  · skip
                    exact absurd hs (by have := wf.sl; omega)
                  · skip
                    refine lv_iconstN hx hb 1 dX7_paint_127 (by decide) ?_
                    refine lv_goto (tgt := 132) hx hb dX7_paint_128 (by decide) ?_
                    refine lv_iconstN hx hb 3 dX7_paint_132 (by decide) ?_
                    refine mu_V (As := [.int (nI 1), .int (nI 3)]) (h0 := ad 0 0) (rest := []) (v := bI true) hx hb hml hown hC hS hAb (mX7_refuse_t l hX 3 (show 1 ≤ 3 by first | assumption | omega | decide | (simp only [decide_eq_false_iff_not, decide_eq_true_eq] at *; omega)) (show 3 < 10 by first | assumption | omega | decide | (simp only [decide_eq_false_iff_not, decide_eq_true_eq] at *; omega))) (fun q h => h.elim (hA q) (fun z => hN q (Nat.le_trans hS.1 z))) kV_X7_29 ⟨rfl, rfl⟩ ⟨Nat.le_of_ble_eq_true rfl, Nat.le_of_ble_eq_true rfl⟩ (hP.recv hC cM_0 rfl) rfl hl (Nat.le_of_ble_eq_true rfl) ⟨show 0 + 0 ≤ (0 : Nat) by omega, show 0 + 0 ≤ (0 : Nat) by omega⟩ dX7_paint_133 (fun H locs hB hS9 hz hk => ?_)
                    have hS := hS9
                    have hX : PM E c (nI 3) ly L ad H := hB
                    obtain ⟨hP, hly, hLb, wfx, ex0, ex1, ex2⟩ := id hX
                    refine lv_bif_eq (tgt := 141) hx hb dX7_paint_136 (by decide) (fun c_136 => ?_) (fun c_136 => ?_)
                    · skip
                      exact absurd (c_136.symm.trans rfl) (by decide)
                    · skip
                      refine lv_iconstN hx hb 0 dX7_paint_139 (by decide) ?_
                      exact mu_iret (x := nI 0) hx hb hr hlocks hS (hX) (by first | rfl | (simp [c_6, c_14, c_26, c_38, c_48, c_59, c_71, c_112, c_124, c_136]; done) | (simp [c_6, c_14, c_26, c_38, c_48, c_59, c_71, c_112, c_124, c_136]; omega) | (simp_all [c_6, c_14, c_26, c_38, c_48, c_59, c_71, c_112, c_124, c_136]; done)) dX7_paint_140
              · skip
                exact absurd (c_71.symm.trans rfl) (by decide)
            · skip
              exact absurd (c_59.symm.trans hw) (by decide)
    · skip
      exact absurd (c_14.symm.trans (by rw [isIn_t hi (by have := wf.sw; have := wf.sh'; have := wf.sl; have := wf.nw; have := wf.nh; have := wf.nl; omega)]; rfl : (!isInS (nI i) (nI 0) (nI (c.R 10 0) - nI 1)) = false)) (by decide)
