/-! the reference's calls that walk the lists by iterators -/
theorem fam_0 {X Y v : Int32} (h : v = nI 0) : X + Y = X + (Y + v) := by
  rw [h, show Y + nI 0 = Y from Int32.add_zero Y]
theorem fam_1 {X Y v w : Int32} (h : v = w) : X + Y + w = X + (Y + v) := by
  rw [h]; exact Int32.add_assoc _ _ _
theorem fam_2 {X v : Int32} (h : v = nI 0) : X = X + v := by
  rw [h]; exact (Int32.add_zero X).symm
theorem smI_0 : ∀ n, smI (fun _ => nI 0) n = nI 0
  | 0 => rfl
  | n + 1 => by
    show smI (fun _ => nI 0) n + nI 0 = nI 0
    rw [smI_0 n]; rfl
theorem smI_if {b : Bool} {g : Nat → Int32} (n : Nat) : smI (fun q => if b = true then nI 0 else g q) n = if b = true then nI 0 else smI g n := by
  cases b
  · rfl
  · exact smI_0 n
theorem anyS_iff {P : Nat → Bool} : ∀ {n f : Nat}, anyS P f n = true ↔ ∃ q, f ≤ q ∧ q < f + n ∧ P q = true
  | 0, f => ⟨fun z => (by cases z), fun ⟨q, h1, h2, _⟩ => absurd h1 (by omega)⟩
  | n + 1, f => by
    show (P f || anyS P (f + 1) n) = true ↔ _
    rw [Bool.or_eq_true, anyS_iff]
    constructor
    · rintro (z | ⟨q, h1, h2, h3⟩)
      · exact ⟨f, Nat.le_refl f, by omega, z⟩
      · exact ⟨q, by omega, by omega, h3⟩
    · rintro ⟨q, h1, h2, h3⟩
      by_cases z : q = f
      · exact Or.inl (by rw [← z]; exact h3)
      · exact Or.inr ⟨q, by omega, by omega, h3⟩
/-- cleaned within n nights: by division, and night by night -/
theorem ic_wbc {c : Cy} {i n : Nat} : icS c i n = wbcS c i n := by
  rw [Bool.eq_iff_iff]
  unfold wbcS icS clnS
  rw [anyS_iff]
  simp only [Bool.and_eq_true, Bool.not_eq_true', decide_eq_false_iff_not, decide_eq_true_eq]
  generalize c.R 2 i = d
  generalize c.R 0 0 = t
  constructor
  · rintro ⟨h1, h2⟩
    have hd : 0 < d := Nat.pos_of_ne_zero h1
    have e1 := Nat.div_add_mod t d
    have e2 := Nat.mod_lt t hd
    have h3 : (t / d + 1) * d ≤ t + n := (Nat.le_div_iff_mul_le hd).mp h2
    have e3 : (t / d + 1) * d = d * (t / d) + d := by rw [Nat.add_mul, Nat.one_mul, Nat.mul_comm]
    refine ⟨(t / d + 1) * d - t, by omega, by omega, hd, ?_⟩
    rw [show t + ((t / d + 1) * d - t) = (t / d + 1) * d by omega]
    exact Nat.mul_mod_left _ _
  · rintro ⟨q, h1, h2, hd, h4⟩
    refine ⟨by omega, ?_⟩
    have e1 := Nat.div_add_mod (t + q) d
    have h5 : t / d < (t + q) / d := by
      rw [Nat.div_lt_iff_lt_mul hd, Nat.mul_comm]
      omega
    exact Nat.lt_of_lt_of_le h5 (Nat.div_le_div_right (by omega))
theorem lo_f {c : Cy} {h n : Nat} : cntN (loM c h false) n = cntN (lofB c h) n := cntN_congr fun k _ => by simp [loM, lofB]
theorem lo_t {c : Cy} {h n : Nat} : cntN (loM c h true) n = cntN (lsfB c h) n := cntN_congr fun k _ => by simp [loM, lsfB]
theorem sl_f {c : Cy} {n : Nat} : cntN (slM c false) n = cntN (lseB c) n := cntN_congr fun k _ => by simp [slM, lseB]
theorem sl_t {c : Cy} {n : Nat} : cntN (slM c true) n = cntN (lwsB c) n := cntN_congr fun k _ => by simp [slM, lwsB, Bool.and_assoc]
theorem smI_z {f : Nat → Int32} {m : Nat} (h : ∀ k, m ≤ k → f k = nI 0) : ∀ d, smI f (m + d) = smI f m
  | 0 => rfl
  | d + 1 => by
    show smI f (m + d) + f (m + d) = _
    rw [smI_z h d, h (m + d) (by omega)]
    exact Int32.add_zero _
theorem sm_8 {c : Cy} (wf : WF c) {h : Nat} (hh : h < c.R 11 1) (e : c.R 10 1 = c.R 11 1) : smI (wrM c h true) (c.R 10 1) = smI (c.Wr h) 8 := by
  have h8 := wf.nh
  have := smI_z (f := c.Wr h) (m := c.R 10 1) (fun k hk => wf.w0 hh (by omega)) (8 - c.R 10 1)
  rw [show c.R 10 1 + (8 - c.R 10 1) = 8 by omega] at this
  exact this.symm
theorem sm_B (f : Nat → Bool) : ∀ n, smI (fun k => bI (f k)) n = nI (cntN f n)
  | 0 => rfl
  | n + 1 => by
    show smI (fun k => bI (f k)) n + bI (f n) = nI (cntN f n + (if f n = true then 1 else 0))
    rw [sm_B f n]
    cases f n
    · exact Int32.add_zero _
    · exact nI_add _ 1
abbrev QlM (v : Int64) (B : Heap → Prop) (A1 : Nat → Prop) : Array Value → State → Outcome → State → Prop := va_Ql (fun (r : Int64) (_ : Unit) => r = v) (fun _ t => B t.heap) A1
abbrev MuL (l : Launch) (y : MethodName) (b : ByteArray) (n : Nat) (rm : Room) (av : List Value) (E : En) (H : Heap) (v : Int64) (B : Heap → Prop) (A1 : Nat → Prop) (mc ms : Nat) : Prop := Met l y [.code y b n (some .long)] rm (PcR av E H) (QlM v B A1) mc ms A1
theorem mu_lret {p : Program} {l : Launch} {e : Env} {R : Room} {s : State} {m : MethodId} {args : Array Value} {below : List Frame} {meth : Method} {c : Code} {H : Heap} {locs : List Loc} {cc : ByteArray} {pc : Nat} {ls : Array Slot} {v x : Int64} {mc ms : Nat} {B : Heap → Prop} {A1 : Nat → Prop} (hx : p.tables.exec = Jvm.exec) (hb : c.code = cc) (hr : meth.sig.returnType = some .long) (hlocks : meth.locks = false) (hS : va_S A1 s.heap H locs) (hB : B H) (hv : x = v) (hdg : decode cc pc = .ok (.lreturn, 1)) : W p l e R s m args below meth c H locs mc ms (MQ below (QlM v B A1) args s mc ms A1) (F0 m pc ls [.long x]) := by
  subst hv
  exact W.lret hx hb hr (fun t ht hW => ⟨⟨x, (), rfl, rfl, by show B t.heap; rw [ht]; exact hB⟩, hS.F ht⟩) hS.2.2 hdg
set_option maxHeartbeats 4000000 in
set_option maxRecDepth 100000 in
theorem mX7_bestFromNow (l : Launch) {E : En} {c : Cy} {th : Int32} {ly : Ly} {L : List Nat} {ad : Nat → Nat → Nat} {H : Heap} (hX : PM E c th ly L ad H) (h i u kd : Nat) (hh : h < c.R 11 1) (hi : i < c.R 11 0) (hu1 : 1 ≤ u) (hu : u ≤ 16) (hkd : kd < 4) : RoI l yX7_bestFromNow cX7_bestFromNow 8 .int (rmk 5 0 0 117) [.ref (ad 0 0), .int (nI h), .int (nI i), .int (nI u), .int (nI kd)] E H (bfS c h i u kd) := by
  obtain ⟨hP, hly, hLb, wf, eq0, eq1, eq2⟩ := id hX
  refine ro_of (by decide) (Nat.le_of_ble_eq_true rfl) ?_
  intro p e s m below meth co ls hx hb hr hml hown hlocks hnm hC hU hl
  have hS : va_S noA s.heap H [] := by rw [hU]; exact va_S.rf
  have hAb : ∀ q, noA q → bA E q := fun _ h => h.elim
  have hl : lv_has ls 8 [(0, .ref (ad 0 0)), (1, .int (nI h)), (2, .int (nI i)), (3, .int (nI u)), (4, .int (nI kd))] := hl
  have gw := wf.wd hi
  refine lv_iconst (v := -1) hx hb dX7_bestFromNow_0 (by decide) ?_
  refine lv_istore (lv' := [(5, .int (-1)), (0, .ref (ad 0 0)), (1, .int (nI h)), (2, .int (nI i)), (3, .int (nI u)), (4, .int (nI kd))]) hx hb dX7_bestFromNow_1 hl (by decide) rfl (fun ls hl => ?_)
  refine lv_iconstN hx hb 0 dX7_bestFromNow_3 (by decide) ?_
  refine lv_istore (lv' := [(6, .int (nI 0)), (5, .int (-1)), (0, .ref (ad 0 0)), (1, .int (nI h)), (2, .int (nI i)), (3, .int (nI u)), (4, .int (nI kd))]) hx hb dX7_bestFromNow_4 hl (by decide) rfl (fun ls hl => ?_)
  have lp6 : ∀ fu : Nat, ∀ (k : Nat) (b2 : Int32), k ≤ c.R 1 i + 1 - u → b2 = oI (bfO c h i u kd k) → c.R 1 i + 1 - u - k < fu → ∀ ls : Array Slot, lv_has ls 8 [(0, .ref (ad 0 0)), (1, .int (nI h)), (2, .int (nI i)), (3, .int (nI u)), (4, .int (nI kd)), (5, .int b2), (6, .int (nI k))] → W p l e (rmk 5 0 0 117) s m ([.ref (ad 0 0), .int (nI h), .int (nI i), .int (nI u), .int (nI kd)] : List Value).toArray below meth co H [] 0 0 (MQ below (QiR (bfS c h i u kd) H) ([.ref (ad 0 0), .int (nI h), .int (nI i), .int (nI u), .int (nI kd)] : List Value).toArray s 0 0 noA) (F0 m 6 ls []) := by
    intro fu
    induction fu with
    | zero => intro k b2 hk hq hfu; exact absurd hfu (Nat.not_lt_zero _)
    | succ fu ih6 =>
      intro k b2 hk hq hfu ls hl
      cases hd2 : bfO c h i u kd k with
      | none =>
        have hb2 : b2 = -1 := by rw [hq, hd2]; rfl
        subst hb2
        refine lv_iload hx hb dX7_bestFromNow_6 (lv_at hl 6 rfl) ?_
        refine lv_aload_n hx hb dX7_bestFromNow_8 rfl (lv_at hl 0 rfl) ?_
        refine pi_get hx hb hC hown hP fL_X7_16 0 0 cM_0 (v := .ref (ad 1 0)) rfl dX7_bestFromNow_9 ?_
        refine lv_iload_n hx hb dX7_bestFromNow_12 rfl (lv_at hl 2 rfl) ?_
        refine ro_VR (As := [.int (nI i)]) (h0 := ad 1 0) (rest := [.int (nI k)]) (v := some (ad 3 i)) hx hb hml hown hC hS hAb (mJ_get l hP 0 (cM_1 (by decide)) (fun h9 => cM_2 (by decide) h9) (hly 0 (by decide)) i (by first | assumption | omega)) kV_X7_63 ⟨rfl, rfl⟩ ⟨Nat.le_of_ble_eq_true rfl, Nat.le_of_ble_eq_true rfl⟩ (hP.recv hC (cM_1 (i := 0) (by decide)) rfl) rfl hl (Nat.le_of_ble_eq_true rfl) ⟨Nat.zero_le _, Nat.zero_le _⟩ dX7_bestFromNow_13 ?_
        have hg_1 : i < c.R 11 0 := by have := wf.sw; omega
        refine pi_cast (nm := "") hx hb hC hown hP 3 i (cM_3 hg_1) rfl wCl_X7_44 dX7_bestFromNow_16 ?_
        refine pi_get hx hb hC hown hP fL_X7_97 3 i (cM_3 hg_1) (v := .ref (ad 4 i)) rfl dX7_bestFromNow_19 ?_
        have g_2 := wf.wd hg_1
        refine pi_alen hx hb hC hP 4 i 0 rfl (cM_4 hg_1) dX7_bestFromNow_22 ?_
        have g_3 := wf.wd hg_1
        refine lv_iload_n hx hb dX7_bestFromNow_23 rfl (lv_at hl 3 rfl) ?_
        refine lv_isub hx hb dX7_bestFromNow_24 ?_
        refine lv_icmp_gt (tgt := 108) hx hb dX7_bestFromNow_25 (by decide) (fun c_25 => ?_) (fun c_25 => ?_)
        · skip
          have c_25 := (lt_subI (by omega) (by omega) (by omega)).mp c_25
          refine lv_iload hx hb dX7_bestFromNow_108 (lv_at hl 5 rfl) ?_
          exact ro_iret (x := (-1)) hx hb hr hlocks hU (by show _ = oI (bfO c h i u kd (c.R 1 i + 1 - u)); rw [show c.R 1 i + 1 - u = k by omega, hd2]; rfl) dX7_bestFromNow_110
        · skip
          have c_25 : ¬ _ := fun z => c_25 ((lt_subI (by omega) (by omega) (by omega)).mpr z)
          refine lv_iload hx hb dX7_bestFromNow_28 (lv_at hl 5 rfl) ?_
          refine lv_iconst (v := -1) hx hb dX7_bestFromNow_30 (by decide) ?_
          refine lv_icmp_ne (tgt := 38) hx hb dX7_bestFromNow_31 (by decide) (fun c_31 => ?_) (fun c_31 => ?_)
          · skip
            exact absurd rfl c_31
          · skip
            refine lv_iconst (v := -1) hx hb dX7_bestFromNow_34 (by decide) ?_
            refine lv_goto (tgt := 61) hx hb dX7_bestFromNow_35 (by decide) ?_
            refine lv_istore (lv' := [(7, .int (-1)), (0, .ref (ad 0 0)), (1, .int (nI h)), (2, .int (nI i)), (3, .int (nI u)), (4, .int (nI kd)), (5, .int (-1)), (6, .int (nI k))]) hx hb dX7_bestFromNow_61 hl (by decide) rfl (fun ls hl => ?_)
            refine lv_iload hx hb dX7_bestFromNow_63 (lv_at hl 0 rfl) ?_
            refine lv_if_lt (tgt := 98) hx hb dX7_bestFromNow_65 (by decide) (fun c_65 => ?_) (fun c_65 => ?_)
            · skip
              refine lv_iload hx hb dX7_bestFromNow_98 (lv_at hl 7 rfl) ?_
              refine lv_istore (lv' := [(5, .int (nI k)), (7, .int (-1)), (0, .ref (ad 0 0)), (1, .int (nI h)), (2, .int (nI i)), (3, .int (nI u)), (4, .int (nI kd)), (6, .int (nI k))]) hx hb dX7_bestFromNow_100 hl (by decide) rfl (fun ls hl => ?_)
              refine lv_iincN (v := 1) (lv' := [(6, .int (nI (k + 1))), (5, .int (nI k)), (7, .int (-1)), (0, .ref (ad 0 0)), (1, .int (nI h)), (2, .int (nI i)), (3, .int (nI u)), (4, .int (nI kd))]) hx hb dX7_bestFromNow_102 hl (k := 7) rfl (by decide) (by decide) rfl (fun ls hl => ?_)
              refine lv_goto (tgt := 6) hx hb dX7_bestFromNow_105 (by decide) ?_
              exact ih6 (k + 1) (nI k) (by first | rfl | assumption | omega | (simp [c_25]; done) | (simp_all [c_25]; done)) (by first | exact bm_none hd2 | exact bm_take hu hd2 (Or.inl c_65) | exact bm_take hu hd2 (Or.inr ⟨c_70, c_95⟩) | exact bm_keep hu hd2 c_65 (fun z => c_70 z.1) | exact bm_keep hu hd2 c_65 (fun z => c_95 z.2)) (by omega) _ (lv_sub hl [3, 4, 5, 6, 7, 1, 0] rfl)
            · skip
              exact absurd (by decide) c_65
      | some b =>
        have hb2 : b2 = nI b := by rw [hq, hd2]; rfl
        subst hb2
        have hbk := bfO_lt hd2
        refine lv_iload hx hb dX7_bestFromNow_6 (lv_at hl 6 rfl) ?_
        refine lv_aload_n hx hb dX7_bestFromNow_8 rfl (lv_at hl 0 rfl) ?_
        refine pi_get hx hb hC hown hP fL_X7_16 0 0 cM_0 (v := .ref (ad 1 0)) rfl dX7_bestFromNow_9 ?_
        refine lv_iload_n hx hb dX7_bestFromNow_12 rfl (lv_at hl 2 rfl) ?_
        refine ro_VR (As := [.int (nI i)]) (h0 := ad 1 0) (rest := [.int (nI k)]) (v := some (ad 3 i)) hx hb hml hown hC hS hAb (mJ_get l hP 0 (cM_1 (by decide)) (fun h9 => cM_2 (by decide) h9) (hly 0 (by decide)) i (by first | assumption | omega)) kV_X7_63 ⟨rfl, rfl⟩ ⟨Nat.le_of_ble_eq_true rfl, Nat.le_of_ble_eq_true rfl⟩ (hP.recv hC (cM_1 (i := 0) (by decide)) rfl) rfl hl (Nat.le_of_ble_eq_true rfl) ⟨Nat.zero_le _, Nat.zero_le _⟩ dX7_bestFromNow_13 ?_
        have hg_4 : i < c.R 11 0 := by have := wf.sw; omega
        refine pi_cast (nm := "") hx hb hC hown hP 3 i (cM_3 hg_4) rfl wCl_X7_44 dX7_bestFromNow_16 ?_
        refine pi_get hx hb hC hown hP fL_X7_97 3 i (cM_3 hg_4) (v := .ref (ad 4 i)) rfl dX7_bestFromNow_19 ?_
        have g_5 := wf.wd hg_4
        refine pi_alen hx hb hC hP 4 i 0 rfl (cM_4 hg_4) dX7_bestFromNow_22 ?_
        have g_6 := wf.wd hg_4
        refine lv_iload_n hx hb dX7_bestFromNow_23 rfl (lv_at hl 3 rfl) ?_
        refine lv_isub hx hb dX7_bestFromNow_24 ?_
        refine lv_icmp_gt (tgt := 108) hx hb dX7_bestFromNow_25 (by decide) (fun c_25 => ?_) (fun c_25 => ?_)
        · skip
          have c_25 := (lt_subI (by omega) (by omega) (by omega)).mp c_25
          refine lv_iload hx hb dX7_bestFromNow_108 (lv_at hl 5 rfl) ?_
          exact ro_iret (x := nI b) hx hb hr hlocks hU (by show _ = oI (bfO c h i u kd (c.R 1 i + 1 - u)); rw [show c.R 1 i + 1 - u = k by omega, hd2]; rfl) dX7_bestFromNow_110
        · skip
          have c_25 : ¬ _ := fun z => c_25 ((lt_subI (by omega) (by omega) (by omega)).mpr z)
          refine lv_iload hx hb dX7_bestFromNow_28 (lv_at hl 5 rfl) ?_
          refine lv_iconst (v := -1) hx hb dX7_bestFromNow_30 (by decide) ?_
          refine lv_icmp_ne (tgt := 38) hx hb dX7_bestFromNow_31 (by decide) (fun c_31 => ?_) (fun c_31 => ?_)
          · skip
            refine lv_aload_n hx hb dX7_bestFromNow_38 rfl (lv_at hl 0 rfl) ?_
            refine lv_iload_n hx hb dX7_bestFromNow_39 rfl (lv_at hl 1 rfl) ?_
            refine lv_iload_n hx hb dX7_bestFromNow_40 rfl (lv_at hl 2 rfl) ?_
            refine lv_iload hx hb dX7_bestFromNow_41 (lv_at hl 6 rfl) ?_
            refine lv_iload_n hx hb dX7_bestFromNow_43 rfl (lv_at hl 3 rfl) ?_
            refine lv_iload hx hb dX7_bestFromNow_44 (lv_at hl 4 rfl) ?_
            refine ro_V (As := [.int (nI h), .int (nI i), .int (nI k), .int (nI u), .int (nI kd)]) (h0 := ad 0 0) (rest := []) (v := nI (cwrS c h i k u kd)) hx hb hml hown hC hS hAb (mX7_wrongsOf l hX h i k u kd hh hg_4 (by first | assumption | omega | (simp only [decide_eq_false_iff_not, decide_eq_true_eq] at *; omega)) (by first | assumption | omega | (simp only [decide_eq_false_iff_not, decide_eq_true_eq] at *; omega))) kV_X7_126 ⟨rfl, rfl⟩ ⟨Nat.le_of_ble_eq_true rfl, Nat.le_of_ble_eq_true rfl⟩ (hP.recv hC cM_0 rfl) rfl hl (Nat.le_of_ble_eq_true rfl) ⟨Nat.zero_le _, Nat.zero_le _⟩ dX7_bestFromNow_46 ?_
            refine lv_aload_n hx hb dX7_bestFromNow_49 rfl (lv_at hl 0 rfl) ?_
            refine lv_iload_n hx hb dX7_bestFromNow_50 rfl (lv_at hl 1 rfl) ?_
            refine lv_iload_n hx hb dX7_bestFromNow_51 rfl (lv_at hl 2 rfl) ?_
            refine lv_iload hx hb dX7_bestFromNow_52 (lv_at hl 5 rfl) ?_
            refine lv_iload_n hx hb dX7_bestFromNow_54 rfl (lv_at hl 3 rfl) ?_
            refine lv_iload hx hb dX7_bestFromNow_55 (lv_at hl 4 rfl) ?_
            refine ro_V (As := [.int (nI h), .int (nI i), .int (nI b), .int (nI u), .int (nI kd)]) (h0 := ad 0 0) (rest := [.int (nI (cwrS c h i k u kd))]) (v := nI (cwrS c h i b u kd)) hx hb hml hown hC hS hAb (mX7_wrongsOf l hX h i b u kd hh hg_4 (by first | assumption | omega | (simp only [decide_eq_false_iff_not, decide_eq_true_eq] at *; omega)) (by first | assumption | omega | (simp only [decide_eq_false_iff_not, decide_eq_true_eq] at *; omega))) kV_X7_126 ⟨rfl, rfl⟩ ⟨Nat.le_of_ble_eq_true rfl, Nat.le_of_ble_eq_true rfl⟩ (hP.recv hC cM_0 rfl) rfl hl (Nat.le_of_ble_eq_true rfl) ⟨Nat.zero_le _, Nat.zero_le _⟩ dX7_bestFromNow_57 ?_
            refine lv_isub hx hb dX7_bestFromNow_60 ?_
            refine lv_istore (lv' := [(7, .int ((nI (cwrS c h i k u kd)) - (nI (cwrS c h i b u kd)))), (0, .ref (ad 0 0)), (1, .int (nI h)), (2, .int (nI i)), (3, .int (nI u)), (4, .int (nI kd)), (5, .int (nI b)), (6, .int (nI k))]) hx hb dX7_bestFromNow_61 hl (by decide) rfl (fun ls hl => ?_)
            refine lv_iload hx hb dX7_bestFromNow_63 (lv_at hl 0 rfl) ?_
            refine lv_if_lt (tgt := 98) hx hb dX7_bestFromNow_65 (by decide) (fun c_65 => ?_) (fun c_65 => ?_)
            · skip
              refine lv_iload hx hb dX7_bestFromNow_98 (lv_at hl 7 rfl) ?_
              refine lv_istore (lv' := [(5, .int (nI k)), (7, .int ((nI (cwrS c h i k u kd)) - (nI (cwrS c h i b u kd)))), (0, .ref (ad 0 0)), (1, .int (nI h)), (2, .int (nI i)), (3, .int (nI u)), (4, .int (nI kd)), (6, .int (nI k))]) hx hb dX7_bestFromNow_100 hl (by decide) rfl (fun ls hl => ?_)
              refine lv_iincN (v := 1) (lv' := [(6, .int (nI (k + 1))), (5, .int (nI k)), (7, .int ((nI (cwrS c h i k u kd)) - (nI (cwrS c h i b u kd)))), (0, .ref (ad 0 0)), (1, .int (nI h)), (2, .int (nI i)), (3, .int (nI u)), (4, .int (nI kd))]) hx hb dX7_bestFromNow_102 hl (k := 7) rfl (by decide) (by decide) rfl (fun ls hl => ?_)
              refine lv_goto (tgt := 6) hx hb dX7_bestFromNow_105 (by decide) ?_
              exact ih6 (k + 1) (nI k) (by first | rfl | assumption | omega | (simp [c_25, c_65]; done) | (simp_all [c_25, c_65]; done)) (by first | exact bm_none hd2 | exact bm_take hu hd2 (Or.inl c_65) | exact bm_take hu hd2 (Or.inr ⟨c_70, c_95⟩) | exact bm_keep hu hd2 c_65 (fun z => c_70 z.1) | exact bm_keep hu hd2 c_65 (fun z => c_95 z.2)) (by omega) _ (lv_sub hl [3, 4, 5, 6, 7, 1, 0] rfl)
            · skip
              refine lv_iload hx hb dX7_bestFromNow_68 (lv_at hl 0 rfl) ?_
              refine lv_if_ne (tgt := 102) hx hb dX7_bestFromNow_70 (by decide) (fun c_70 => ?_) (fun c_70 => ?_)
              · skip
                refine lv_iincN (v := 1) (lv' := [(6, .int (nI (k + 1))), (7, .int ((nI (cwrS c h i k u kd)) - (nI (cwrS c h i b u kd)))), (0, .ref (ad 0 0)), (1, .int (nI h)), (2, .int (nI i)), (3, .int (nI u)), (4, .int (nI kd)), (5, .int (nI b))]) hx hb dX7_bestFromNow_102 hl (k := 7) rfl (by decide) (by decide) rfl (fun ls hl => ?_)
                refine lv_goto (tgt := 6) hx hb dX7_bestFromNow_105 (by decide) ?_
                exact ih6 (k + 1) (nI b) (by first | rfl | assumption | omega | (simp [c_25, c_65, c_70]; done) | (simp_all [c_25, c_65, c_70]; done)) (by first | exact bm_none hd2 | exact bm_take hu hd2 (Or.inl c_65) | exact bm_take hu hd2 (Or.inr ⟨c_70, c_95⟩) | exact bm_keep hu hd2 c_65 (fun z => c_70 z.1) | exact bm_keep hu hd2 c_65 (fun z => c_95 z.2)) (by omega) _ (lv_sub hl [2, 3, 4, 5, 6, 7, 0] rfl)
              · skip
                refine lv_aload_n hx hb dX7_bestFromNow_73 rfl (lv_at hl 1 rfl) ?_
                refine lv_iload_n hx hb dX7_bestFromNow_74 rfl (lv_at hl 2 rfl) ?_
                refine lv_iload_n hx hb dX7_bestFromNow_75 rfl (lv_at hl 3 rfl) ?_
                refine lv_iload hx hb dX7_bestFromNow_76 (lv_at hl 7 rfl) ?_
                refine lv_iload_n hx hb dX7_bestFromNow_78 rfl (lv_at hl 4 rfl) ?_
                refine lv_iload hx hb dX7_bestFromNow_79 (lv_at hl 5 rfl) ?_
                refine ro_V (As := [.int (nI h), .int (nI i), .int (nI k), .int (nI u), .int (nI kd)]) (h0 := ad 0 0) (rest := []) (v := gmS c h i k u kd) hx hb hml hown hC hS hAb (mX7_gains l hX h i k u kd hh hg_4 (by first | assumption | omega | (simp only [decide_eq_false_iff_not, decide_eq_true_eq] at *; omega)) (by first | assumption | omega | (simp only [decide_eq_false_iff_not, decide_eq_true_eq] at *; omega))) kV_X7_264 ⟨rfl, rfl⟩ ⟨Nat.le_of_ble_eq_true rfl, Nat.le_of_ble_eq_true rfl⟩ (hP.recv hC cM_0 rfl) rfl hl (Nat.le_of_ble_eq_true rfl) ⟨Nat.zero_le _, Nat.zero_le _⟩ dX7_bestFromNow_81 ?_
                refine lv_aload_n hx hb dX7_bestFromNow_84 rfl (lv_at hl 1 rfl) ?_
                refine lv_iload_n hx hb dX7_bestFromNow_85 rfl (lv_at hl 2 rfl) ?_
                refine lv_iload_n hx hb dX7_bestFromNow_86 rfl (lv_at hl 3 rfl) ?_
                refine lv_iload hx hb dX7_bestFromNow_87 (lv_at hl 6 rfl) ?_
                refine lv_iload_n hx hb dX7_bestFromNow_89 rfl (lv_at hl 4 rfl) ?_
                refine lv_iload hx hb dX7_bestFromNow_90 (lv_at hl 5 rfl) ?_
                refine ro_V (As := [.int (nI h), .int (nI i), .int (nI b), .int (nI u), .int (nI kd)]) (h0 := ad 0 0) (rest := [.int (gmS c h i k u kd)]) (v := gmS c h i b u kd) hx hb hml hown hC hS hAb (mX7_gains l hX h i b u kd hh hg_4 (by first | assumption | omega | (simp only [decide_eq_false_iff_not, decide_eq_true_eq] at *; omega)) (by first | assumption | omega | (simp only [decide_eq_false_iff_not, decide_eq_true_eq] at *; omega))) kV_X7_264 ⟨rfl, rfl⟩ ⟨Nat.le_of_ble_eq_true rfl, Nat.le_of_ble_eq_true rfl⟩ (hP.recv hC cM_0 rfl) rfl hl (Nat.le_of_ble_eq_true rfl) ⟨Nat.zero_le _, Nat.zero_le _⟩ dX7_bestFromNow_92 ?_
                refine lv_icmp_le (tgt := 102) hx hb dX7_bestFromNow_95 (by decide) (fun c_95 => ?_) (fun c_95 => ?_)
                · skip
                  have c_95 := Int32.not_lt.mpr c_95
                  refine lv_iincN (v := 1) (lv' := [(6, .int (nI (k + 1))), (7, .int ((nI (cwrS c h i k u kd)) - (nI (cwrS c h i b u kd)))), (0, .ref (ad 0 0)), (1, .int (nI h)), (2, .int (nI i)), (3, .int (nI u)), (4, .int (nI kd)), (5, .int (nI b))]) hx hb dX7_bestFromNow_102 hl (k := 7) rfl (by decide) (by decide) rfl (fun ls hl => ?_)
                  refine lv_goto (tgt := 6) hx hb dX7_bestFromNow_105 (by decide) ?_
                  exact ih6 (k + 1) (nI b) (by first | rfl | assumption | omega | (simp [c_25, c_65, c_70, c_95]; done) | (simp_all [c_25, c_65, c_70, c_95]; done)) (by first | exact bm_none hd2 | exact bm_take hu hd2 (Or.inl c_65) | exact bm_take hu hd2 (Or.inr ⟨c_70, c_95⟩) | exact bm_keep hu hd2 c_65 (fun z => c_70 z.1) | exact bm_keep hu hd2 c_65 (fun z => c_95 z.2)) (by omega) _ (lv_sub hl [2, 3, 4, 5, 6, 7, 0] rfl)
                · skip
                  have c_95 := Int32.not_le.mp c_95
                  refine lv_iload hx hb dX7_bestFromNow_98 (lv_at hl 7 rfl) ?_
                  refine lv_istore (lv' := [(5, .int (nI k)), (7, .int ((nI (cwrS c h i k u kd)) - (nI (cwrS c h i b u kd)))), (0, .ref (ad 0 0)), (1, .int (nI h)), (2, .int (nI i)), (3, .int (nI u)), (4, .int (nI kd)), (6, .int (nI k))]) hx hb dX7_bestFromNow_100 hl (by decide) rfl (fun ls hl => ?_)
                  refine lv_iincN (v := 1) (lv' := [(6, .int (nI (k + 1))), (5, .int (nI k)), (7, .int ((nI (cwrS c h i k u kd)) - (nI (cwrS c h i b u kd)))), (0, .ref (ad 0 0)), (1, .int (nI h)), (2, .int (nI i)), (3, .int (nI u)), (4, .int (nI kd))]) hx hb dX7_bestFromNow_102 hl (k := 7) rfl (by decide) (by decide) rfl (fun ls hl => ?_)
                  refine lv_goto (tgt := 6) hx hb dX7_bestFromNow_105 (by decide) ?_
                  exact ih6 (k + 1) (nI k) (by first | rfl | assumption | omega | (simp [c_25, c_65, c_70, c_95]; done) | (simp_all [c_25, c_65, c_70, c_95]; done)) (by first | exact bm_none hd2 | exact bm_take hu hd2 (Or.inl c_65) | exact bm_take hu hd2 (Or.inr ⟨c_70, c_95⟩) | exact bm_keep hu hd2 c_65 (fun z => c_70 z.1) | exact bm_keep hu hd2 c_65 (fun z => c_95 z.2)) (by omega) _ (lv_sub hl [3, 4, 5, 6, 7, 1, 0] rfl)
          · skip
            exact absurd c_31 (nI_m1 (by omega))
  exact lp6 (c.R 1 i + 1 - u - 0 + 1) 0 (-1) (by first | rfl | assumption | omega | (simp []; done) | (simp_all []; done)) (rfl) (Nat.lt_succ_self _) _ (lv_sub hl [2, 3, 4, 5, 6, 1, 0] rfl)
set_option maxHeartbeats 4000000 in
set_option maxRecDepth 100000 in
theorem mX7_fame (l : Launch) {E : En} {c : Cy} {th : Int32} {ly : Ly} {L : List Nat} {ad : Nat → Nat → Nat} {H0 : Heap} (hX : PM E c th ly L ad H0) (h : Nat) (hh : h < c.R 11 1) : MuI l yX7_fame cX7_fame 9 .int (rmk 3 1 4 64) [.ref (ad 0 0), .int (nI h)] E H0 (fmS c h) (fun H1 => PM E c th ly L ad H1) (cA L H0) 1 4 := by
  obtain ⟨hP, hly, hLb, wf, eq0, eq1, eq2⟩ := id hX
  have wfx := wf
  refine ro_of (by decide) (Nat.le_of_ble_eq_true rfl) ?_
  intro p e s m below meth co ls hx hb hr hml hown hlocks hnm hC hU hl
  have hS : va_S (cA L H0) s.heap H0 [] := by rw [hU]; exact va_S.rf
  have hA : ∀ q, q ∈ L → cA L H0 q := fun q h => Or.inl h
  have hN : ∀ q, s.heap.size ≤ q → cA L H0 q := fun q h => Or.inr (by rw [← hU]; exact h)
  have hAb : ∀ q, cA L H0 q → bA E q := fun q h => h.elim (hLb q) (fun z => Nat.le_trans hC.2.2.2.1 (by rw [hU]; exact z))
  have hl : lv_has ls 9 [(0, .ref (ad 0 0)), (1, .int (nI h))] := hl
  have gq := wf.nw
  have gs := wf.sw
  have gh := wf.nh
  refine lv_iconstN hx hb 0 dX7_fame_0 (by decide) ?_
  refine lv_istore_n (lv' := [(2, .int (nI 0)), (0, .ref (ad 0 0)), (1, .int (nI h))]) hx hb dX7_fame_1 rfl hl (by decide) rfl (fun ls hl => ?_)
  refine lv_aload_n hx hb dX7_fame_2 rfl (lv_at hl 1 rfl) ?_
  refine pi_get hx hb hC hown hP fL_X7_16 0 0 cM_0 (v := .ref (ad 1 0)) rfl dX7_fame_3 ?_
  refine it_new hx hb hml hown hC hS hAb hN hP hLb 0 (cM_1 (by decide)) ⟨Nat.le_of_ble_eq_true rfl, Nat.le_of_ble_eq_true rfl⟩ hl (Nat.le_of_ble_eq_true rfl) ⟨show 0 + 1 ≤ (1 : Nat) by omega, show 0 + 4 ≤ (4 : Nat) by omega⟩ dX7_fame_6 (fun q6 H locs hqn hI_q6 hS9 hz hk => ?_)
  have hq_q6 : q6 ∉ L := fun h => absurd (hP.lt h) (Nat.not_lt.mpr hqn)
  have hqA_q6 : cA L H0 q6 := hN _ (Nat.le_trans hS.1 hqn)
  have hS := hS9
  have hX := hX.kept (fun z h1 _ => hk z h1)
  obtain ⟨hP, hly, hLb, wfx, eq0, eq1, eq2⟩ := id hX
  refine lv_astore_n (lv' := [(3, .ref q6), (2, .int (nI 0)), (0, .ref (ad 0 0)), (1, .int (nI h))]) hx hb dX7_fame_9 rfl hl (by decide) rfl (fun ls hl => ?_)
  have lp10 : ∀ fu : Nat, ∀ (k : Nat) (a : Int32), k ≤ c.R 10 0 → a = smI (fun i => wfS c i h) k → c.R 10 0 - k < fu → ∀ (H : Heap) (locs : List Loc), PM E c th ly L ad H → va_S (cA L H0) s.heap H locs → ∀ last : Int32, PI E.1 [q6] (itc k last (ly.1 0) (ad 1 0)) (fun _ _ => q6) H → ∀ ls : Array Slot, lv_has ls 9 [(0, .ref (ad 0 0)), (1, .int (nI h)), (2, .int a), (3, .ref q6)] → W p l e (rmk 3 1 4 64) s m ([.ref (ad 0 0), .int (nI h)] : List Value).toArray below meth co H locs 1 4 (MQ below (QiM (fmS c h) (fun H1 => PM E c th ly L ad H1) (cA L H0)) ([.ref (ad 0 0), .int (nI h)] : List Value).toArray s 1 4 (cA L H0)) (F0 m 10 ls []) := by
    intro fu
    induction fu with
    | zero => intro k a hk ha hfu; exact absurd hfu (Nat.not_lt_zero _)
    | succ fu ih10 =>
      intro k a hk ha hfu H locs hX hS last hI_q6 ls hl
      obtain ⟨hP, hly, hLb, wfx, eq0, eq1, eq2⟩ := id hX
      refine lv_aload_n hx hb dX7_fame_10 rfl (lv_at hl 3 rfl) ?_
      refine it_has hx hb hml hown hC hS hAb hP 0 (cM_1 (by decide)) q6 k hI_q6 (by omega) (by omega) ⟨Nat.le_of_ble_eq_true rfl, Nat.le_of_ble_eq_true rfl⟩ hl (Nat.le_of_ble_eq_true rfl) ⟨show _ ≤ (1 : Nat) by omega, show _ ≤ (4 : Nat) by omega⟩ dX7_fame_11 (fun c_11 => ?_) (fun c_11 => ?_)
      · skip
        have c_11 : k < c.R 10 0 := by first | omega | (have e9 := c_11; simp only [Cy.R] at *; omega)
        refine lv_bif_eq (tgt := 121) hx hb dX7_fame_16 (by decide) (fun z => absurd z (by decide)) (fun z => ?_)
        refine lv_aload_n hx hb dX7_fame_19 rfl (lv_at hl 3 rfl) ?_
        refine it_next hx hb hml hown hC hS hAb hP 0 (cM_1 (by decide)) (fun h9 => cM_2 (by decide) h9) (hly 0 (by decide)) q6 k hq_q6 hqA_q6 hI_q6 (by first | assumption | omega) ⟨Nat.le_of_ble_eq_true rfl, Nat.le_of_ble_eq_true rfl⟩ hl (Nat.le_of_ble_eq_true rfl) ⟨show _ ≤ (1 : Nat) by omega, show _ ≤ (4 : Nat) by omega⟩ dX7_fame_20 (fun H locs hI_q6 hS hz hk => ?_)
        have hX := hX.kept (fun z h1 h2 => hk z h1 (fun h3 => hq_q6 (by rw [← h3]; exact h2)))
        obtain ⟨hP, hly, hLb, wfx, eq0, eq1, eq2⟩ := id hX
        have hg_1 : k < c.R 11 0 := by have := wf.sw; omega
        refine pi_cast (nm := "") hx hb hC hown hP 3 k (cM_3 hg_1) rfl wCl_X7_44 dX7_fame_25 ?_
        refine lv_astore (lv' := [(4, .ref (ad 3 k)), (0, .ref (ad 0 0)), (1, .int (nI h)), (2, .int a), (3, .ref q6)]) hx hb dX7_fame_28 hl (by decide) rfl (fun ls hl => ?_)
        refine lv_aload hx hb dX7_fame_30 (lv_at hl 0 rfl) ?_
        refine pi_get hx hb hC hown hP fL_X7_97 3 k (cM_3 hg_1) (v := .ref (ad 4 k)) rfl dX7_fame_32 ?_
        have g_2 : 4 ≤ c.R 1 k ∧ c.R 1 k ≤ 16 := wfx.wd hg_1
        refine lv_astore (lv' := [(5, .ref (ad 4 k)), (4, .ref (ad 3 k)), (0, .ref (ad 0 0)), (1, .int (nI h)), (2, .int a), (3, .ref q6)]) hx hb dX7_fame_35 hl (by decide) rfl (fun ls hl => ?_)
        refine lv_aload hx hb dX7_fame_37 (lv_at hl 0 rfl) ?_
        refine pi_alen hx hb hC hP 4 k 0 rfl (cM_4 hg_1) dX7_fame_39 ?_
        have g_3 : 4 ≤ c.R 1 k ∧ c.R 1 k ≤ 16 := wfx.wd hg_1
        refine lv_istore (lv' := [(6, .int (nI (c.R 1 k))), (5, .ref (ad 4 k)), (4, .ref (ad 3 k)), (0, .ref (ad 0 0)), (1, .int (nI h)), (2, .int a), (3, .ref q6)]) hx hb dX7_fame_40 hl (by decide) rfl (fun ls hl => ?_)
        refine lv_iconstN hx hb 0 dX7_fame_42 (by decide) ?_
        refine lv_istore (lv' := [(7, .int (nI 0)), (6, .int (nI (c.R 1 k))), (5, .ref (ad 4 k)), (4, .ref (ad 3 k)), (0, .ref (ad 0 0)), (1, .int (nI h)), (2, .int a), (3, .ref q6)]) hx hb dX7_fame_43 hl (by decide) rfl (fun ls hl => ?_)
        have lp45 : ∀ fu : Nat, ∀ (z : Nat) (a2 : Int32), z ≤ c.R 1 k → a2 = smI (fun i => wfS c i h) k + smI (fun q => faS c k q h) z → c.R 1 k - z < fu → ∀ (H : Heap) (locs : List Loc), PM E c th ly L ad H → va_S (cA L H0) s.heap H locs → ∀ last : Int32, PI E.1 [q6] (itc (k + 1) last (ly.1 0) (ad 1 0)) (fun _ _ => q6) H → ∀ ls : Array Slot, lv_has ls 9 [(0, .ref (ad 0 0)), (1, .int (nI h)), (2, .int a2), (3, .ref q6), (4, .ref (ad 3 k)), (5, .ref (ad 4 k)), (6, .int (nI (c.R 1 k))), (7, .int (nI z))] → W p l e (rmk 3 1 4 64) s m ([.ref (ad 0 0), .int (nI h)] : List Value).toArray below meth co H locs 1 4 (MQ below (QiM (fmS c h) (fun H1 => PM E c th ly L ad H1) (cA L H0)) ([.ref (ad 0 0), .int (nI h)] : List Value).toArray s 1 4 (cA L H0)) (F0 m 45 ls []) := by
          intro fu
          induction fu with
          | zero => intro z a2 hz ha2 hfu; exact absurd hfu (Nat.not_lt_zero _)
          | succ fu ih45 =>
            intro z a2 hz ha2 hfu H locs hX hS last hI_q6 ls hl
            obtain ⟨hP, hly, hLb, wfx, eq0, eq1, eq2⟩ := id hX
            refine lv_iload hx hb dX7_fame_45 (lv_at hl 7 rfl) ?_
            refine lv_iload hx hb dX7_fame_47 (lv_at hl 6 rfl) ?_
            refine lv_icmpN_ge (tgt := 118) hx hb dX7_fame_49 (by decide) (by omega) (by omega) (fun c_49 => ?_) (fun c_49 => ?_)
            · skip
              refine lv_goto (tgt := 10) hx hb dX7_fame_118 (by decide) ?_
              exact ih10 (k + 1) a2 (by first | rfl | assumption | omega | (simp [c_49]; done) | (simp_all [c_49]; done)) (by rw [ha2, show z = c.R 1 k by omega]; rfl) (by omega) _ _ hX hS _ hI_q6 _ (lv_sub hl [0, 1, 2, 3] rfl)
            · skip
              refine lv_aload hx hb dX7_fame_52 (lv_at hl 5 rfl) ?_
              refine lv_iload hx hb dX7_fame_54 (lv_at hl 7 rfl) ?_
              refine pi_iald hx hb hC hP 4 k (cM_4 hg_1) (j := z) (by first | assumption | omega) (by omega) dX7_fame_56 ?_
              rcases d_56 : c.sh k z with _ | j_56
              · skip
                have sd_56 : shI c k z = -1 := shI_n d_56
                rw [sd_56]
                refine lv_istore (lv' := [(8, .int (-1)), (0, .ref (ad 0 0)), (1, .int (nI h)), (2, .int a2), (3, .ref q6), (4, .ref (ad 3 k)), (5, .ref (ad 4 k)), (6, .int (nI (c.R 1 k))), (7, .int (nI z))]) hx hb dX7_fame_57 hl (by decide) rfl (fun ls hl => ?_)
                refine lv_iload hx hb dX7_fame_59 (lv_at hl 0 rfl) ?_
                refine lv_iconst (v := -1) hx hb dX7_fame_61 (by decide) ?_
                refine lv_icmp_eq (tgt := 112) hx hb dX7_fame_62 (by decide) (fun c_62 => ?_) (fun c_62 => ?_)
                · skip
                  refine lv_iincN (v := 1) (lv' := [(7, .int (nI (z + 1))), (8, .int (-1)), (0, .ref (ad 0 0)), (1, .int (nI h)), (2, .int a2), (3, .ref q6), (4, .ref (ad 3 k)), (5, .ref (ad 4 k)), (6, .int (nI (c.R 1 k)))]) hx hb dX7_fame_112 hl (k := 8) rfl (by decide) (by decide) rfl (fun ls hl => ?_)
                  refine lv_goto (tgt := 45) hx hb dX7_fame_115 (by decide) ?_
                  exact ih45 (z + 1) a2 (by first | rfl | assumption | omega | (simp [c_49, d_56]; done) | (simp_all [c_49, d_56]; done)) (by rw [ha2]; first | exact fam_0 (by simp [faS, c_49, d_56]) | exact fam_1 (by simp [faS, c_49, d_56])) (by omega) _ _ hX hS _ hI_q6 _ (lv_sub hl [2, 3, 4, 5, 6, 7, 8, 0] rfl)
                · skip
                  exact absurd rfl c_62
              · skip
                have sd_56 : shI c k z = nI j_56 := shI_s d_56
                rw [sd_56]
                have hj_56 : j_56 < c.R 11 2 := wf.sj hg_1 (by first | assumption | omega) d_56
                have g_4 := wf.nl
                refine lv_istore (lv' := [(8, .int (nI j_56)), (0, .ref (ad 0 0)), (1, .int (nI h)), (2, .int a2), (3, .ref q6), (4, .ref (ad 3 k)), (5, .ref (ad 4 k)), (6, .int (nI (c.R 1 k))), (7, .int (nI z))]) hx hb dX7_fame_57 hl (by decide) rfl (fun ls hl => ?_)
                refine lv_iload hx hb dX7_fame_59 (lv_at hl 0 rfl) ?_
                refine lv_iconst (v := -1) hx hb dX7_fame_61 (by decide) ?_
                refine lv_icmp_eq (tgt := 112) hx hb dX7_fame_62 (by decide) (fun c_62 => ?_) (fun c_62 => ?_)
                · skip
                  exact absurd c_62 (nI_m1 (by omega))
                · skip
                  refine lv_aload_n hx hb dX7_fame_65 rfl (lv_at hl 1 rfl) ?_
                  refine pi_get hx hb hC hown hP fL_X7_23 0 0 cM_0 (v := .ref (ad 1 2)) rfl dX7_fame_66 ?_
                  refine lv_iload hx hb dX7_fame_69 (lv_at hl 0 rfl) ?_
                  refine ro_VR (As := [.int (nI j_56)]) (h0 := ad 1 2) (rest := []) (v := some (ad 7 j_56)) hx hb hml hown hC hS hAb (mJ_get l hP 2 (cM_1 (by decide)) (fun h9 => cM_2 (by decide) h9) (hly 2 (by decide)) j_56 (by first | assumption | omega)) kV_X7_63 ⟨rfl, rfl⟩ ⟨Nat.le_of_ble_eq_true rfl, Nat.le_of_ble_eq_true rfl⟩ (hP.recv hC (cM_1 (i := 2) (by decide)) rfl) rfl hl (Nat.le_of_ble_eq_true rfl) ⟨show _ ≤ (1 : Nat) by omega, show _ ≤ (4 : Nat) by omega⟩ dX7_fame_71 ?_
                  have hg_5 : j_56 < c.R 11 2 := by have := wf.sl; omega
                  refine pi_cast (nm := "") hx hb hC hown hP 7 j_56 (cM_7 hg_5) rfl wCl_X7_85 dX7_fame_74 ?_
                  refine pi_get hx hb hC hown hP fL_X7_84 7 j_56 (cM_7 hg_5) (v := .int (nI (c.R 5 j_56))) rfl dX7_fame_77 ?_
                  have g_6 : c.R 5 j_56 < c.R 11 1 := wfx.lh hg_5
                  refine lv_iload_n hx hb dX7_fame_80 rfl (lv_at hl 2 rfl) ?_
                  refine lv_icmpN_ne (tgt := 112) hx hb dX7_fame_81 (by decide) (by omega) (by omega) (fun c_81 => ?_) (fun c_81 => ?_)
                  · skip
                    refine lv_iincN (v := 1) (lv' := [(7, .int (nI (z + 1))), (8, .int (nI j_56)), (0, .ref (ad 0 0)), (1, .int (nI h)), (2, .int a2), (3, .ref q6), (4, .ref (ad 3 k)), (5, .ref (ad 4 k)), (6, .int (nI (c.R 1 k)))]) hx hb dX7_fame_112 hl (k := 8) rfl (by decide) (by decide) rfl (fun ls hl => ?_)
                    refine lv_goto (tgt := 45) hx hb dX7_fame_115 (by decide) ?_
                    exact ih45 (z + 1) a2 (by first | rfl | assumption | omega | (simp [c_49, d_56, c_81]; done) | (simp_all [c_49, d_56, c_81]; done)) (by rw [ha2]; first | exact fam_0 (by simp [faS, c_49, d_56, c_81]) | exact fam_1 (by simp [faS, c_49, d_56, c_81])) (by omega) _ _ hX hS _ hI_q6 _ (lv_sub hl [2, 3, 4, 5, 6, 7, 8, 0] rfl)
                  · skip
                    refine lv_iload_n hx hb dX7_fame_84 rfl (lv_at hl 3 rfl) ?_
                    refine lv_aload hx hb dX7_fame_85 (lv_at hl 5 rfl) ?_
                    refine pi_get hx hb hC hown hP fL_X7_194 3 k (cM_3 hg_1) (v := .int (c.I 2 k)) rfl dX7_fame_87 ?_
                    refine gt_get hx hb hC.2.2.1.2.2.1 hS hAb hown (hC.2.1.at (w := .fieldLink "WallcodeModel" 165 "WallcodeModel" "WEIGHTS" "[I") (List.mem_append_right _ (List.mem_of_getElem? (i := 1092) (by decide +kernel))) (by decide +kernel) _) dX7_fame_90 ?_
                    refine lv_aload_n hx hb dX7_fame_93 rfl (lv_at hl 1 rfl) ?_
                    refine pi_get hx hb hC hown hP fL_X7_23 0 0 cM_0 (v := .ref (ad 1 2)) rfl dX7_fame_94 ?_
                    refine lv_iload hx hb dX7_fame_97 (lv_at hl 0 rfl) ?_
                    refine ro_VR (As := [.int (nI j_56)]) (h0 := ad 1 2) (rest := [.ref (E.2 7), .int (c.I 2 k), .int a2]) (v := some (ad 7 j_56)) hx hb hml hown hC hS hAb (mJ_get l hP 2 (cM_1 (by decide)) (fun h9 => cM_2 (by decide) h9) (hly 2 (by decide)) j_56 (by first | assumption | omega)) kV_X7_63 ⟨rfl, rfl⟩ ⟨Nat.le_of_ble_eq_true rfl, Nat.le_of_ble_eq_true rfl⟩ (hP.recv hC (cM_1 (i := 2) (by decide)) rfl) rfl hl (Nat.le_of_ble_eq_true rfl) ⟨show _ ≤ (1 : Nat) by omega, show _ ≤ (4 : Nat) by omega⟩ dX7_fame_99 ?_
                    have hg_7 : j_56 < c.R 11 2 := by have := wf.sl; omega
                    refine pi_cast (nm := "") hx hb hC hown hP 7 j_56 (cM_7 hg_7) rfl wCl_X7_85 dX7_fame_102 ?_
                    refine pi_get hx hb hC hown hP fL_X7_93 7 j_56 (cM_7 hg_7) (v := .int (nI (c.R 9 j_56))) rfl dX7_fame_105 ?_
                    have g_8 : c.R 9 j_56 < 4 := wfx.lk hg_7
                    refine gt_ld hx hb hC.2.2.1.2.2.1 hS hAb (j := c.R 9 j_56) (by omega) dX7_fame_108 ?_
                    refine lv_imul hx hb dX7_fame_109 ?_
                    refine lv_iadd hx hb dX7_fame_110 ?_
                    refine lv_istore_n (lv' := [(2, .int (a2 + ((c.I 2 k) * (wtf (c.R 9 j_56))))), (8, .int (nI j_56)), (0, .ref (ad 0 0)), (1, .int (nI h)), (3, .ref q6), (4, .ref (ad 3 k)), (5, .ref (ad 4 k)), (6, .int (nI (c.R 1 k))), (7, .int (nI z))]) hx hb dX7_fame_111 rfl hl (by decide) rfl (fun ls hl => ?_)
                    refine lv_iincN (v := 1) (lv' := [(7, .int (nI (z + 1))), (2, .int (a2 + ((c.I 2 k) * (wtf (c.R 9 j_56))))), (8, .int (nI j_56)), (0, .ref (ad 0 0)), (1, .int (nI h)), (3, .ref q6), (4, .ref (ad 3 k)), (5, .ref (ad 4 k)), (6, .int (nI (c.R 1 k)))]) hx hb dX7_fame_112 hl (k := 8) rfl (by decide) (by decide) rfl (fun ls hl => ?_)
                    refine lv_goto (tgt := 45) hx hb dX7_fame_115 (by decide) ?_
                    exact ih45 (z + 1) (a2 + ((c.I 2 k) * (wtf (c.R 9 j_56)))) (by first | rfl | assumption | omega | (simp [c_49, d_56, c_81]; done) | (simp_all [c_49, d_56, c_81]; done)) (by rw [ha2]; first | exact fam_0 (by simp [faS, c_49, d_56, c_81]) | exact fam_1 (by simp [faS, c_49, d_56, c_81])) (by omega) _ _ hX hS _ hI_q6 _ (lv_sub hl [3, 4, 1, 5, 6, 7, 8, 0] rfl)
        exact lp45 (c.R 1 k - 0 + 1) 0 a (by first | rfl | assumption | omega | (simp []; done) | (simp_all []; done)) (by rw [ha]; exact (Int32.add_zero _).symm) (Nat.lt_succ_self _) _ _ hX hS _ hI_q6 _ (lv_sub hl [4, 5, 6, 7, 3, 2, 1, 0] rfl)
      · skip
        have c_11 : k = c.R 10 0 := c_11
        refine lv_bif_eq (tgt := 121) hx hb dX7_fame_16 (by decide) (fun z => ?_) (fun z => absurd z (by decide))
        refine lv_iload_n hx hb dX7_fame_121 rfl (lv_at hl 2 rfl) ?_
        exact mu_iret (x := a) hx hb hr hlocks hS (hX) (by rw [ha, show k = c.R 10 0 by omega]; rfl) dX7_fame_122
  exact lp10 (c.R 10 0 - 0 + 1) 0 (nI 0) (by first | rfl | assumption | omega | (simp []; done) | (simp_all []; done)) (rfl) (Nat.lt_succ_self _) _ _ hX hS _ hI_q6 _ (lv_sub hl [2, 3, 1, 0] rfl)
set_option maxHeartbeats 4000000 in
set_option maxRecDepth 100000 in
theorem mX7_wouldFameNow (l : Launch) {E : En} {c : Cy} {th : Int32} {ly : Ly} {L : List Nat} {ad : Nat → Nat → Nat} {H0 : Heap} (hX : PM E c th ly L ad H0) (h n : Nat) (hh : h < c.R 11 1) (hn : n ≤ 30) : MuI l yX7_wouldFameNow cX7_wouldFameNow 10 .int (rmk 3 1 4 64) [.ref (ad 0 0), .int (nI h), .int (nI n)] E H0 (wbfS c h n) (fun H1 => PM E c th ly L ad H1) (cA L H0) 1 4 := by
  obtain ⟨hP, hly, hLb, wf, eq0, eq1, eq2⟩ := id hX
  have wfx := wf
  refine ro_of (by decide) (Nat.le_of_ble_eq_true rfl) ?_
  intro p e s m below meth co ls hx hb hr hml hown hlocks hnm hC hU hl
  have hS : va_S (cA L H0) s.heap H0 [] := by rw [hU]; exact va_S.rf
  have hA : ∀ q, q ∈ L → cA L H0 q := fun q h => Or.inl h
  have hN : ∀ q, s.heap.size ≤ q → cA L H0 q := fun q h => Or.inr (by rw [← hU]; exact h)
  have hAb : ∀ q, cA L H0 q → bA E q := fun q h => h.elim (hLb q) (fun z => Nat.le_trans hC.2.2.2.1 (by rw [hU]; exact z))
  have hl : lv_has ls 10 [(0, .ref (ad 0 0)), (1, .int (nI h)), (2, .int (nI n))] := hl
  have gq := wf.nw
  have gs := wf.sw
  have gh := wf.nh
  refine lv_iconstN hx hb 0 dX7_wouldFameNow_0 (by decide) ?_
  refine lv_istore_n (lv' := [(3, .int (nI 0)), (0, .ref (ad 0 0)), (1, .int (nI h)), (2, .int (nI n))]) hx hb dX7_wouldFameNow_1 rfl hl (by decide) rfl (fun ls hl => ?_)
  refine lv_aload_n hx hb dX7_wouldFameNow_2 rfl (lv_at hl 1 rfl) ?_
  refine pi_get hx hb hC hown hP fL_X7_16 0 0 cM_0 (v := .ref (ad 1 0)) rfl dX7_wouldFameNow_3 ?_
  refine it_new hx hb hml hown hC hS hAb hN hP hLb 0 (cM_1 (by decide)) ⟨Nat.le_of_ble_eq_true rfl, Nat.le_of_ble_eq_true rfl⟩ hl (Nat.le_of_ble_eq_true rfl) ⟨show 0 + 1 ≤ (1 : Nat) by omega, show 0 + 4 ≤ (4 : Nat) by omega⟩ dX7_wouldFameNow_6 (fun q6 H locs hqn hI_q6 hS9 hz hk => ?_)
  have hq_q6 : q6 ∉ L := fun h => absurd (hP.lt h) (Nat.not_lt.mpr hqn)
  have hqA_q6 : cA L H0 q6 := hN _ (Nat.le_trans hS.1 hqn)
  have hS := hS9
  have hX := hX.kept (fun z h1 _ => hk z h1)
  obtain ⟨hP, hly, hLb, wfx, eq0, eq1, eq2⟩ := id hX
  refine lv_astore (lv' := [(4, .ref q6), (3, .int (nI 0)), (0, .ref (ad 0 0)), (1, .int (nI h)), (2, .int (nI n))]) hx hb dX7_wouldFameNow_9 hl (by decide) rfl (fun ls hl => ?_)
  have lp11 : ∀ fu : Nat, ∀ (k : Nat) (a : Int32), k ≤ c.R 10 0 → a = smI (fun i => if wbcS c i n = true then nI 0 else wfS c i h) k → c.R 10 0 - k < fu → ∀ (H : Heap) (locs : List Loc), PM E c th ly L ad H → va_S (cA L H0) s.heap H locs → ∀ last : Int32, PI E.1 [q6] (itc k last (ly.1 0) (ad 1 0)) (fun _ _ => q6) H → ∀ ls : Array Slot, lv_has ls 10 [(0, .ref (ad 0 0)), (1, .int (nI h)), (2, .int (nI n)), (3, .int a), (4, .ref q6)] → W p l e (rmk 3 1 4 64) s m ([.ref (ad 0 0), .int (nI h), .int (nI n)] : List Value).toArray below meth co H locs 1 4 (MQ below (QiM (wbfS c h n) (fun H1 => PM E c th ly L ad H1) (cA L H0)) ([.ref (ad 0 0), .int (nI h), .int (nI n)] : List Value).toArray s 1 4 (cA L H0)) (F0 m 11 ls []) := by
    intro fu
    induction fu with
    | zero => intro k a hk ha hfu; exact absurd hfu (Nat.not_lt_zero _)
    | succ fu ih11 =>
      intro k a hk ha hfu H locs hX hS last hI_q6 ls hl
      obtain ⟨hP, hly, hLb, wfx, eq0, eq1, eq2⟩ := id hX
      refine lv_aload hx hb dX7_wouldFameNow_11 (lv_at hl 4 rfl) ?_
      refine it_has hx hb hml hown hC hS hAb hP 0 (cM_1 (by decide)) q6 k hI_q6 (by omega) (by omega) ⟨Nat.le_of_ble_eq_true rfl, Nat.le_of_ble_eq_true rfl⟩ hl (Nat.le_of_ble_eq_true rfl) ⟨show _ ≤ (1 : Nat) by omega, show _ ≤ (4 : Nat) by omega⟩ dX7_wouldFameNow_13 (fun c_13 => ?_) (fun c_13 => ?_)
      · skip
        have c_13 : k < c.R 10 0 := by first | omega | (have e9 := c_13; simp only [Cy.R] at *; omega)
        refine lv_bif_eq (tgt := 134) hx hb dX7_wouldFameNow_18 (by decide) (fun z => absurd z (by decide)) (fun z => ?_)
        refine lv_aload hx hb dX7_wouldFameNow_21 (lv_at hl 4 rfl) ?_
        refine it_next hx hb hml hown hC hS hAb hP 0 (cM_1 (by decide)) (fun h9 => cM_2 (by decide) h9) (hly 0 (by decide)) q6 k hq_q6 hqA_q6 hI_q6 (by first | assumption | omega) ⟨Nat.le_of_ble_eq_true rfl, Nat.le_of_ble_eq_true rfl⟩ hl (Nat.le_of_ble_eq_true rfl) ⟨show _ ≤ (1 : Nat) by omega, show _ ≤ (4 : Nat) by omega⟩ dX7_wouldFameNow_23 (fun H locs hI_q6 hS hz hk => ?_)
        have hX := hX.kept (fun z h1 h2 => hk z h1 (fun h3 => hq_q6 (by rw [← h3]; exact h2)))
        obtain ⟨hP, hly, hLb, wfx, eq0, eq1, eq2⟩ := id hX
        have hg_1 : k < c.R 11 0 := by have := wf.sw; omega
        refine pi_cast (nm := "") hx hb hC hown hP 3 k (cM_3 hg_1) rfl wCl_X7_44 dX7_wouldFameNow_28 ?_
        refine lv_astore (lv' := [(5, .ref (ad 3 k)), (0, .ref (ad 0 0)), (1, .int (nI h)), (2, .int (nI n)), (3, .int a), (4, .ref q6)]) hx hb dX7_wouldFameNow_31 hl (by decide) rfl (fun ls hl => ?_)
        refine lv_aload hx hb dX7_wouldFameNow_33 (lv_at hl 0 rfl) ?_
        refine pi_get hx hb hC hown hP fL_X7_97 3 k (cM_3 hg_1) (v := .ref (ad 4 k)) rfl dX7_wouldFameNow_35 ?_
        have g_2 : 4 ≤ c.R 1 k ∧ c.R 1 k ≤ 16 := wfx.wd hg_1
        refine lv_astore (lv' := [(6, .ref (ad 4 k)), (5, .ref (ad 3 k)), (0, .ref (ad 0 0)), (1, .int (nI h)), (2, .int (nI n)), (3, .int a), (4, .ref q6)]) hx hb dX7_wouldFameNow_38 hl (by decide) rfl (fun ls hl => ?_)
        refine lv_aload hx hb dX7_wouldFameNow_40 (lv_at hl 0 rfl) ?_
        refine pi_alen hx hb hC hP 4 k 0 rfl (cM_4 hg_1) dX7_wouldFameNow_42 ?_
        have g_3 : 4 ≤ c.R 1 k ∧ c.R 1 k ≤ 16 := wfx.wd hg_1
        refine lv_istore (lv' := [(7, .int (nI (c.R 1 k))), (6, .ref (ad 4 k)), (5, .ref (ad 3 k)), (0, .ref (ad 0 0)), (1, .int (nI h)), (2, .int (nI n)), (3, .int a), (4, .ref q6)]) hx hb dX7_wouldFameNow_43 hl (by decide) rfl (fun ls hl => ?_)
        refine lv_iconstN hx hb 0 dX7_wouldFameNow_45 (by decide) ?_
        refine lv_istore (lv' := [(8, .int (nI 0)), (7, .int (nI (c.R 1 k))), (6, .ref (ad 4 k)), (5, .ref (ad 3 k)), (0, .ref (ad 0 0)), (1, .int (nI h)), (2, .int (nI n)), (3, .int a), (4, .ref q6)]) hx hb dX7_wouldFameNow_46 hl (by decide) rfl (fun ls hl => ?_)
        have lp48 : ∀ fu : Nat, ∀ (z : Nat) (a2 : Int32), z ≤ c.R 1 k → a2 = smI (fun i => if wbcS c i n = true then nI 0 else wfS c i h) k + smI (fun q => if icS c k n = true then nI 0 else faS c k q h) z → c.R 1 k - z < fu → ∀ (H : Heap) (locs : List Loc), PM E c th ly L ad H → va_S (cA L H0) s.heap H locs → ∀ last : Int32, PI E.1 [q6] (itc (k + 1) last (ly.1 0) (ad 1 0)) (fun _ _ => q6) H → ∀ ls : Array Slot, lv_has ls 10 [(0, .ref (ad 0 0)), (1, .int (nI h)), (2, .int (nI n)), (3, .int a2), (4, .ref q6), (5, .ref (ad 3 k)), (6, .ref (ad 4 k)), (7, .int (nI (c.R 1 k))), (8, .int (nI z))] → W p l e (rmk 3 1 4 64) s m ([.ref (ad 0 0), .int (nI h), .int (nI n)] : List Value).toArray below meth co H locs 1 4 (MQ below (QiM (wbfS c h n) (fun H1 => PM E c th ly L ad H1) (cA L H0)) ([.ref (ad 0 0), .int (nI h), .int (nI n)] : List Value).toArray s 1 4 (cA L H0)) (F0 m 48 ls []) := by
          intro fu
          induction fu with
          | zero => intro z a2 hz ha2 hfu; exact absurd hfu (Nat.not_lt_zero _)
          | succ fu ih48 =>
            intro z a2 hz ha2 hfu H locs hX hS last hI_q6 ls hl
            obtain ⟨hP, hly, hLb, wfx, eq0, eq1, eq2⟩ := id hX
            refine lv_iload hx hb dX7_wouldFameNow_48 (lv_at hl 8 rfl) ?_
            refine lv_iload hx hb dX7_wouldFameNow_50 (lv_at hl 7 rfl) ?_
            refine lv_icmpN_ge (tgt := 131) hx hb dX7_wouldFameNow_52 (by decide) (by omega) (by omega) (fun c_52 => ?_) (fun c_52 => ?_)
            · skip
              refine lv_goto (tgt := 11) hx hb dX7_wouldFameNow_131 (by decide) ?_
              exact ih11 (k + 1) a2 (by first | rfl | assumption | omega | (simp [c_52]; done) | (simp_all [c_52]; done)) (by rw [ha2, show z = c.R 1 k by omega]; rw [smI_if, ic_wbc]; rfl) (by omega) _ _ hX hS _ hI_q6 _ (lv_sub hl [0, 1, 2, 3, 4] rfl)
            · skip
              refine lv_aload hx hb dX7_wouldFameNow_55 (lv_at hl 6 rfl) ?_
              refine lv_iload hx hb dX7_wouldFameNow_57 (lv_at hl 8 rfl) ?_
              refine pi_iald hx hb hC hP 4 k (cM_4 hg_1) (j := z) (by first | assumption | omega) (by omega) dX7_wouldFameNow_59 ?_
              rcases d_59 : c.sh k z with _ | j_59
              · skip
                have sd_59 : shI c k z = -1 := shI_n d_59
                rw [sd_59]
                refine lv_istore (lv' := [(9, .int (-1)), (0, .ref (ad 0 0)), (1, .int (nI h)), (2, .int (nI n)), (3, .int a2), (4, .ref q6), (5, .ref (ad 3 k)), (6, .ref (ad 4 k)), (7, .int (nI (c.R 1 k))), (8, .int (nI z))]) hx hb dX7_wouldFameNow_60 hl (by decide) rfl (fun ls hl => ?_)
                refine lv_iload hx hb dX7_wouldFameNow_62 (lv_at hl 0 rfl) ?_
                refine lv_iconst (v := -1) hx hb dX7_wouldFameNow_64 (by decide) ?_
                refine lv_icmp_eq (tgt := 125) hx hb dX7_wouldFameNow_65 (by decide) (fun c_65 => ?_) (fun c_65 => ?_)
                · skip
                  refine lv_iincN (v := 1) (lv' := [(8, .int (nI (z + 1))), (9, .int (-1)), (0, .ref (ad 0 0)), (1, .int (nI h)), (2, .int (nI n)), (3, .int a2), (4, .ref q6), (5, .ref (ad 3 k)), (6, .ref (ad 4 k)), (7, .int (nI (c.R 1 k)))]) hx hb dX7_wouldFameNow_125 hl (k := 9) rfl (by decide) (by decide) rfl (fun ls hl => ?_)
                  refine lv_goto (tgt := 48) hx hb dX7_wouldFameNow_128 (by decide) ?_
                  exact ih48 (z + 1) a2 (by first | rfl | assumption | omega | (simp [c_52, d_59]; done) | (simp_all [c_52, d_59]; done)) (by rw [ha2]; first | exact fam_0 (by simp [faS, c_52, d_59]) | exact fam_1 (by simp [faS, c_52, d_59])) (by omega) _ _ hX hS _ hI_q6 _ (lv_sub hl [2, 3, 4, 5, 6, 7, 8, 9, 0] rfl)
                · skip
                  exact absurd rfl c_65
              · skip
                have sd_59 : shI c k z = nI j_59 := shI_s d_59
                rw [sd_59]
                have hj_59 : j_59 < c.R 11 2 := wf.sj hg_1 (by first | assumption | omega) d_59
                have g_4 := wf.nl
                refine lv_istore (lv' := [(9, .int (nI j_59)), (0, .ref (ad 0 0)), (1, .int (nI h)), (2, .int (nI n)), (3, .int a2), (4, .ref q6), (5, .ref (ad 3 k)), (6, .ref (ad 4 k)), (7, .int (nI (c.R 1 k))), (8, .int (nI z))]) hx hb dX7_wouldFameNow_60 hl (by decide) rfl (fun ls hl => ?_)
                refine lv_iload hx hb dX7_wouldFameNow_62 (lv_at hl 0 rfl) ?_
                refine lv_iconst (v := -1) hx hb dX7_wouldFameNow_64 (by decide) ?_
                refine lv_icmp_eq (tgt := 125) hx hb dX7_wouldFameNow_65 (by decide) (fun c_65 => ?_) (fun c_65 => ?_)
                · skip
                  exact absurd c_65 (nI_m1 (by omega))
                · skip
                  refine lv_aload_n hx hb dX7_wouldFameNow_68 rfl (lv_at hl 1 rfl) ?_
                  refine pi_get hx hb hC hown hP fL_X7_23 0 0 cM_0 (v := .ref (ad 1 2)) rfl dX7_wouldFameNow_69 ?_
                  refine lv_iload hx hb dX7_wouldFameNow_72 (lv_at hl 0 rfl) ?_
                  refine ro_VR (As := [.int (nI j_59)]) (h0 := ad 1 2) (rest := []) (v := some (ad 7 j_59)) hx hb hml hown hC hS hAb (mJ_get l hP 2 (cM_1 (by decide)) (fun h9 => cM_2 (by decide) h9) (hly 2 (by decide)) j_59 (by first | assumption | omega)) kV_X7_63 ⟨rfl, rfl⟩ ⟨Nat.le_of_ble_eq_true rfl, Nat.le_of_ble_eq_true rfl⟩ (hP.recv hC (cM_1 (i := 2) (by decide)) rfl) rfl hl (Nat.le_of_ble_eq_true rfl) ⟨show _ ≤ (1 : Nat) by omega, show _ ≤ (4 : Nat) by omega⟩ dX7_wouldFameNow_74 ?_
                  have hg_5 : j_59 < c.R 11 2 := by have := wf.sl; omega
                  refine pi_cast (nm := "") hx hb hC hown hP 7 j_59 (cM_7 hg_5) rfl wCl_X7_85 dX7_wouldFameNow_77 ?_
                  refine pi_get hx hb hC hown hP fL_X7_84 7 j_59 (cM_7 hg_5) (v := .int (nI (c.R 5 j_59))) rfl dX7_wouldFameNow_80 ?_
                  have g_6 : c.R 5 j_59 < c.R 11 1 := wfx.lh hg_5
                  refine lv_iload_n hx hb dX7_wouldFameNow_83 rfl (lv_at hl 2 rfl) ?_
                  refine lv_icmpN_ne (tgt := 125) hx hb dX7_wouldFameNow_84 (by decide) (by omega) (by omega) (fun c_84 => ?_) (fun c_84 => ?_)
                  · skip
                    refine lv_iincN (v := 1) (lv' := [(8, .int (nI (z + 1))), (9, .int (nI j_59)), (0, .ref (ad 0 0)), (1, .int (nI h)), (2, .int (nI n)), (3, .int a2), (4, .ref q6), (5, .ref (ad 3 k)), (6, .ref (ad 4 k)), (7, .int (nI (c.R 1 k)))]) hx hb dX7_wouldFameNow_125 hl (k := 9) rfl (by decide) (by decide) rfl (fun ls hl => ?_)
                    refine lv_goto (tgt := 48) hx hb dX7_wouldFameNow_128 (by decide) ?_
                    exact ih48 (z + 1) a2 (by first | rfl | assumption | omega | (simp [c_52, d_59, c_84]; done) | (simp_all [c_52, d_59, c_84]; done)) (by rw [ha2]; first | exact fam_0 (by simp [faS, c_52, d_59, c_84]) | exact fam_1 (by simp [faS, c_52, d_59, c_84])) (by omega) _ _ hX hS _ hI_q6 _ (lv_sub hl [2, 3, 4, 5, 6, 7, 8, 9, 0] rfl)
                  · skip
                    refine lv_aload_n hx hb dX7_wouldFameNow_87 rfl (lv_at hl 1 rfl) ?_
                    refine lv_aload hx hb dX7_wouldFameNow_88 (lv_at hl 6 rfl) ?_
                    refine lv_iload_n hx hb dX7_wouldFameNow_90 rfl (lv_at hl 3 rfl) ?_
                    refine ro_V (As := [.ref (ad 3 k), .int (nI n)]) (h0 := ad 0 0) (rest := []) (v := bI (icS c k n)) hx hb hml hown hC hS hAb (mX7_isCleaned l hX k n hg_1 (by first | assumption | omega | (simp only [decide_eq_false_iff_not, decide_eq_true_eq] at *; omega))) kV_X7_274 ⟨rfl, rfl⟩ ⟨Nat.le_of_ble_eq_true rfl, Nat.le_of_ble_eq_true rfl⟩ (hP.recv hC cM_0 rfl) rfl hl (Nat.le_of_ble_eq_true rfl) ⟨show _ ≤ (1 : Nat) by omega, show _ ≤ (4 : Nat) by omega⟩ dX7_wouldFameNow_91 ?_
                    refine lv_bif_ne (tgt := 125) hx hb dX7_wouldFameNow_94 (by decide) (fun c_94 => ?_) (fun c_94 => ?_)
                    · skip
                      refine lv_iincN (v := 1) (lv' := [(8, .int (nI (z + 1))), (9, .int (nI j_59)), (0, .ref (ad 0 0)), (1, .int (nI h)), (2, .int (nI n)), (3, .int a2), (4, .ref q6), (5, .ref (ad 3 k)), (6, .ref (ad 4 k)), (7, .int (nI (c.R 1 k)))]) hx hb dX7_wouldFameNow_125 hl (k := 9) rfl (by decide) (by decide) rfl (fun ls hl => ?_)
                      refine lv_goto (tgt := 48) hx hb dX7_wouldFameNow_128 (by decide) ?_
                      exact ih48 (z + 1) a2 (by first | rfl | assumption | omega | (simp [c_52, d_59, c_84, c_94]; done) | (simp_all [c_52, d_59, c_84, c_94]; done)) (by rw [ha2]; first | exact fam_0 (by simp [faS, c_52, d_59, c_84, c_94]) | exact fam_1 (by simp [faS, c_52, d_59, c_84, c_94])) (by omega) _ _ hX hS _ hI_q6 _ (lv_sub hl [2, 3, 4, 5, 6, 7, 8, 9, 0] rfl)
                    · skip
                      refine lv_iload_n hx hb dX7_wouldFameNow_97 rfl (lv_at hl 4 rfl) ?_
                      refine lv_aload hx hb dX7_wouldFameNow_98 (lv_at hl 6 rfl) ?_
                      refine pi_get hx hb hC hown hP fL_X7_194 3 k (cM_3 hg_1) (v := .int (c.I 2 k)) rfl dX7_wouldFameNow_100 ?_
                      refine gt_get hx hb hC.2.2.1.2.2.1 hS hAb hown (hC.2.1.at (w := .fieldLink "WallcodeModel" 165 "WallcodeModel" "WEIGHTS" "[I") (List.mem_append_right _ (List.mem_of_getElem? (i := 1092) (by decide +kernel))) (by decide +kernel) _) dX7_wouldFameNow_103 ?_
                      refine lv_aload_n hx hb dX7_wouldFameNow_106 rfl (lv_at hl 1 rfl) ?_
                      refine pi_get hx hb hC hown hP fL_X7_23 0 0 cM_0 (v := .ref (ad 1 2)) rfl dX7_wouldFameNow_107 ?_
                      refine lv_iload hx hb dX7_wouldFameNow_110 (lv_at hl 0 rfl) ?_
                      refine ro_VR (As := [.int (nI j_59)]) (h0 := ad 1 2) (rest := [.ref (E.2 7), .int (c.I 2 k), .int a2]) (v := some (ad 7 j_59)) hx hb hml hown hC hS hAb (mJ_get l hP 2 (cM_1 (by decide)) (fun h9 => cM_2 (by decide) h9) (hly 2 (by decide)) j_59 (by first | assumption | omega)) kV_X7_63 ⟨rfl, rfl⟩ ⟨Nat.le_of_ble_eq_true rfl, Nat.le_of_ble_eq_true rfl⟩ (hP.recv hC (cM_1 (i := 2) (by decide)) rfl) rfl hl (Nat.le_of_ble_eq_true rfl) ⟨show _ ≤ (1 : Nat) by omega, show _ ≤ (4 : Nat) by omega⟩ dX7_wouldFameNow_112 ?_
                      have hg_7 : j_59 < c.R 11 2 := by have := wf.sl; omega
                      refine pi_cast (nm := "") hx hb hC hown hP 7 j_59 (cM_7 hg_7) rfl wCl_X7_85 dX7_wouldFameNow_115 ?_
                      refine pi_get hx hb hC hown hP fL_X7_93 7 j_59 (cM_7 hg_7) (v := .int (nI (c.R 9 j_59))) rfl dX7_wouldFameNow_118 ?_
                      have g_8 : c.R 9 j_59 < 4 := wfx.lk hg_7
                      refine gt_ld hx hb hC.2.2.1.2.2.1 hS hAb (j := c.R 9 j_59) (by omega) dX7_wouldFameNow_121 ?_
                      refine lv_imul hx hb dX7_wouldFameNow_122 ?_
                      refine lv_iadd hx hb dX7_wouldFameNow_123 ?_
                      refine lv_istore_n (lv' := [(3, .int (a2 + ((c.I 2 k) * (wtf (c.R 9 j_59))))), (9, .int (nI j_59)), (0, .ref (ad 0 0)), (1, .int (nI h)), (2, .int (nI n)), (4, .ref q6), (5, .ref (ad 3 k)), (6, .ref (ad 4 k)), (7, .int (nI (c.R 1 k))), (8, .int (nI z))]) hx hb dX7_wouldFameNow_124 rfl hl (by decide) rfl (fun ls hl => ?_)
                      refine lv_iincN (v := 1) (lv' := [(8, .int (nI (z + 1))), (3, .int (a2 + ((c.I 2 k) * (wtf (c.R 9 j_59))))), (9, .int (nI j_59)), (0, .ref (ad 0 0)), (1, .int (nI h)), (2, .int (nI n)), (4, .ref q6), (5, .ref (ad 3 k)), (6, .ref (ad 4 k)), (7, .int (nI (c.R 1 k)))]) hx hb dX7_wouldFameNow_125 hl (k := 9) rfl (by decide) (by decide) rfl (fun ls hl => ?_)
                      refine lv_goto (tgt := 48) hx hb dX7_wouldFameNow_128 (by decide) ?_
                      exact ih48 (z + 1) (a2 + ((c.I 2 k) * (wtf (c.R 9 j_59)))) (by first | rfl | assumption | omega | (simp [c_52, d_59, c_84, c_94]; done) | (simp_all [c_52, d_59, c_84, c_94]; done)) (by rw [ha2]; first | exact fam_0 (by simp [faS, c_52, d_59, c_84, c_94]) | exact fam_1 (by simp [faS, c_52, d_59, c_84, c_94])) (by omega) _ _ hX hS _ hI_q6 _ (lv_sub hl [3, 4, 5, 1, 6, 7, 8, 9, 0] rfl)
        exact lp48 (c.R 1 k - 0 + 1) 0 a (by first | rfl | assumption | omega | (simp []; done) | (simp_all []; done)) (by rw [ha]; exact (Int32.add_zero _).symm) (Nat.lt_succ_self _) _ _ hX hS _ hI_q6 _ (lv_sub hl [4, 5, 6, 7, 8, 3, 2, 1, 0] rfl)
      · skip
        have c_13 : k = c.R 10 0 := c_13
        refine lv_bif_eq (tgt := 134) hx hb dX7_wouldFameNow_18 (by decide) (fun z => ?_) (fun z => absurd z (by decide))
        refine lv_iload_n hx hb dX7_wouldFameNow_134 rfl (lv_at hl 3 rfl) ?_
        exact mu_iret (x := a) hx hb hr hlocks hS (hX) (by rw [ha, show k = c.R 10 0 by omega]; rfl) dX7_wouldFameNow_135
  exact lp11 (c.R 10 0 - 0 + 1) 0 (nI 0) (by first | rfl | assumption | omega | (simp []; done) | (simp_all []; done)) (rfl) (Nat.lt_succ_self _) _ _ hX hS _ hI_q6 _ (lv_sub hl [2, 3, 4, 1, 0] rfl)
set_option maxHeartbeats 4000000 in
set_option maxRecDepth 100000 in
theorem mX7_price (l : Launch) {E : En} {c : Cy} {th : Int32} {ly : Ly} {L : List Nat} {ad : Nat → Nat → Nat} {H0 : Heap} (hX : PM E c th ly L ad H0) (j : Nat) (hj : j < c.R 10 2) : MuI l yX7_price cX7_price 2 .int (rmk 4 1 4 92) [.ref (ad 0 0), .int (nI j)] E H0 (prS c j) (fun H1 => PM E c th ly L ad H1) (cA L H0) 1 4 := by
  obtain ⟨hP, hly, hLb, wf, eq0, eq1, eq2⟩ := id hX
  have wfx := wf
  refine ro_of (by decide) (Nat.le_of_ble_eq_true rfl) ?_
  intro p e s m below meth co ls hx hb hr hml hown hlocks hnm hC hU hl
  have hS : va_S (cA L H0) s.heap H0 [] := by rw [hU]; exact va_S.rf
  have hA : ∀ q, q ∈ L → cA L H0 q := fun q h => Or.inl h
  have hN : ∀ q, s.heap.size ≤ q → cA L H0 q := fun q h => Or.inr (by rw [← hU]; exact h)
  have hAb : ∀ q, cA L H0 q → bA E q := fun q h => h.elim (hLb q) (fun z => Nat.le_trans hC.2.2.2.1 (by rw [hU]; exact z))
  have hl : lv_has ls 2 [(0, .ref (ad 0 0)), (1, .int (nI j))] := hl
  refine gt_get hx hb hC.2.2.1.2.2.1 hS hAb hown (hC.2.1.at (w := .fieldLink "WallcodeModel" 165 "WallcodeModel" "WEIGHTS" "[I") (List.mem_append_right _ (List.mem_of_getElem? (i := 1092) (by decide +kernel))) (by decide +kernel) _) dX7_price_0 ?_
  refine lv_aload_n hx hb dX7_price_3 rfl (lv_at hl 0 rfl) ?_
  refine pi_get hx hb hC hown hP fL_X7_23 0 0 cM_0 (v := .ref (ad 1 2)) rfl dX7_price_4 ?_
  refine lv_iload_n hx hb dX7_price_7 rfl (lv_at hl 1 rfl) ?_
  refine ro_VR (As := [.int (nI j)]) (h0 := ad 1 2) (rest := [.ref (E.2 7)]) (v := some (ad 7 j)) hx hb hml hown hC hS hAb (mJ_get l hP 2 (cM_1 (by decide)) (fun h9 => cM_2 (by decide) h9) (hly 2 (by decide)) j (by first | assumption | omega)) kV_X7_63 ⟨rfl, rfl⟩ ⟨Nat.le_of_ble_eq_true rfl, Nat.le_of_ble_eq_true rfl⟩ (hP.recv hC (cM_1 (i := 2) (by decide)) rfl) rfl hl (Nat.le_of_ble_eq_true rfl) ⟨show _ ≤ (1 : Nat) by omega, show _ ≤ (4 : Nat) by omega⟩ dX7_price_8 ?_
  have hg_1 : j < c.R 11 2 := by have := wf.sl; omega
  refine pi_cast (nm := "") hx hb hC hown hP 7 j (cM_7 hg_1) rfl wCl_X7_85 dX7_price_11 ?_
  refine pi_get hx hb hC hown hP fL_X7_93 7 j (cM_7 hg_1) (v := .int (nI (c.R 9 j))) rfl dX7_price_14 ?_
  have g_2 : c.R 9 j < 4 := wfx.lk hg_1
  refine gt_ld hx hb hC.2.2.1.2.2.1 hS hAb (j := c.R 9 j) (by omega) dX7_price_17 ?_
  refine lv_aload_n hx hb dX7_price_18 rfl (lv_at hl 0 rfl) ?_
  refine lv_iload_n hx hb dX7_price_19 rfl (lv_at hl 1 rfl) ?_
  refine ro_V (As := [.int (nI j)]) (h0 := ad 0 0) (rest := [.int (wtf (c.R 9 j))]) (v := nI (seenS c j)) hx hb hml hown hC hS hAb (mX7_seen l hX j hg_1) kV_X7_197 ⟨rfl, rfl⟩ ⟨Nat.le_of_ble_eq_true rfl, Nat.le_of_ble_eq_true rfl⟩ (hP.recv hC cM_0 rfl) rfl hl (Nat.le_of_ble_eq_true rfl) ⟨show _ ≤ (1 : Nat) by omega, show _ ≤ (4 : Nat) by omega⟩ dX7_price_20 ?_
  have g_3 := seen_le wf (j := j) hg_1
  refine lv_imul hx hb dX7_price_23 ?_
  refine lv_bipushN hx hb 10 dX7_price_24 (by decide) ?_
  refine lv_aload_n hx hb dX7_price_26 rfl (lv_at hl 0 rfl) ?_
  refine lv_aload_n hx hb dX7_price_27 rfl (lv_at hl 0 rfl) ?_
  refine pi_get hx hb hC hown hP fL_X7_23 0 0 cM_0 (v := .ref (ad 1 2)) rfl dX7_price_28 ?_
  refine lv_iload_n hx hb dX7_price_31 rfl (lv_at hl 1 rfl) ?_
  refine ro_VR (As := [.int (nI j)]) (h0 := ad 1 2) (rest := [.ref (ad 0 0), .int (nI 10), .int ((wtf (c.R 9 j)) * (nI (seenS c j)))]) (v := some (ad 7 j)) hx hb hml hown hC hS hAb (mJ_get l hP 2 (cM_1 (by decide)) (fun h9 => cM_2 (by decide) h9) (hly 2 (by decide)) j (by first | assumption | omega)) kV_X7_63 ⟨rfl, rfl⟩ ⟨Nat.le_of_ble_eq_true rfl, Nat.le_of_ble_eq_true rfl⟩ (hP.recv hC (cM_1 (i := 2) (by decide)) rfl) rfl hl (Nat.le_of_ble_eq_true rfl) ⟨show _ ≤ (1 : Nat) by omega, show _ ≤ (4 : Nat) by omega⟩ dX7_price_32 ?_
  have hg_4 : j < c.R 11 2 := by have := wf.sl; omega
  refine pi_cast (nm := "") hx hb hC hown hP 7 j (cM_7 hg_4) rfl wCl_X7_85 dX7_price_35 ?_
  refine pi_get hx hb hC hown hP fL_X7_84 7 j (cM_7 hg_4) (v := .int (nI (c.R 5 j))) rfl dX7_price_38 ?_
  have g_5 : c.R 5 j < c.R 11 1 := wfx.lh hg_4
  refine mu_V (As := [.int (nI (c.R 5 j))]) (h0 := ad 0 0) (rest := [.int (nI 10), .int ((wtf (c.R 9 j)) * (nI (seenS c j)))]) (v := fmS c (c.R 5 j)) hx hb hml hown hC hS hAb (mX7_fame l hX (c.R 5 j) (by first | assumption | omega | decide | (simp only [decide_eq_false_iff_not, decide_eq_true_eq] at *; omega))) (fun q h => h.elim (hA q) (fun z => hN q (Nat.le_trans hS.1 z))) kV_X7_200 ⟨rfl, rfl⟩ ⟨Nat.le_of_ble_eq_true rfl, Nat.le_of_ble_eq_true rfl⟩ (hP.recv hC cM_0 rfl) rfl hl (Nat.le_of_ble_eq_true rfl) ⟨show 0 + 1 ≤ (1 : Nat) by omega, show 0 + 4 ≤ (4 : Nat) by omega⟩ dX7_price_41 (fun H locs hB hS9 hz hk => ?_)
  have hS := hS9
  have hX : PM E c th ly L ad H := hB
  obtain ⟨hP, hly, hLb, wfx, eq0, eq1, eq2⟩ := id hX
  refine lv_bipushN hx hb 10 dX7_price_44 (by decide) ?_
  refine lv_idiv hx hb dX7_price_46 (by decide) ?_
  refine lv_iadd hx hb dX7_price_47 ?_
  refine lv_imul hx hb dX7_price_48 ?_
  exact mu_iret (x := ((wtf (c.R 9 j)) * (nI (seenS c j))) * ((nI 10) + ((fmS c (c.R 5 j)) / (nI 10)))) hx hb hr hlocks hS (hX) (by first | rfl | (simp []; done) | (simp []; omega) | (simp_all []; done)) dX7_price_49
set_option maxHeartbeats 4000000 in
set_option maxRecDepth 100000 in
theorem mX7_ofHandNow (l : Launch) {E : En} {c : Cy} {th : Int32} {ly : Ly} {L : List Nat} {ad : Nat → Nat → Nat} {H0 : Heap} (hX : PM E c th ly L ad H0) (h w : Nat) (hh : h < c.R 10 1) (hw : w ≤ 10) : MuI l yX7_ofHandNow cX7_ofHandNow 4 .int (rmk 5 1 4 109) [.ref (ad 0 0), .int (nI h), .int (nI w)] E H0 (ohS c h (nI w)) (fun H1 => PM E c th ly L ad H1) (cA L H0) 1 4 := by
  obtain ⟨hP, hly, hLb, wf, eq0, eq1, eq2⟩ := id hX
  have wfx := wf
  refine ro_of (by decide) (Nat.le_of_ble_eq_true rfl) ?_
  intro p e s m below meth co ls hx hb hr hml hown hlocks hnm hC hU hl
  have hS : va_S (cA L H0) s.heap H0 [] := by rw [hU]; exact va_S.rf
  have hA : ∀ q, q ∈ L → cA L H0 q := fun q h => Or.inl h
  have hN : ∀ q, s.heap.size ≤ q → cA L H0 q := fun q h => Or.inr (by rw [← hU]; exact h)
  have hAb : ∀ q, cA L H0 q → bA E q := fun q h => h.elim (hLb q) (fun z => Nat.le_trans hC.2.2.2.1 (by rw [hU]; exact z))
  have hl : lv_has ls 4 [(0, .ref (ad 0 0)), (1, .int (nI h)), (2, .int (nI w))] := hl
  have gs := wf.sh'
  have gh := wf.nh
  refine lv_aload_n hx hb dX7_ofHandNow_0 rfl (lv_at hl 0 rfl) ?_
  refine pi_get hx hb hC hown hP fL_X7_20 0 0 cM_0 (v := .ref (ad 1 1)) rfl dX7_ofHandNow_1 ?_
  refine lv_iload_n hx hb dX7_ofHandNow_4 rfl (lv_at hl 1 rfl) ?_
  refine ro_VR (As := [.int (nI h)]) (h0 := ad 1 1) (rest := []) (v := some (ad 5 h)) hx hb hml hown hC hS hAb (mJ_get l hP 1 (cM_1 (by decide)) (fun h9 => cM_2 (by decide) h9) (hly 1 (by decide)) h (by first | assumption | omega)) kV_X7_63 ⟨rfl, rfl⟩ ⟨Nat.le_of_ble_eq_true rfl, Nat.le_of_ble_eq_true rfl⟩ (hP.recv hC (cM_1 (i := 1) (by decide)) rfl) rfl hl (Nat.le_of_ble_eq_true rfl) ⟨show _ ≤ (1 : Nat) by omega, show _ ≤ (4 : Nat) by omega⟩ dX7_ofHandNow_5 ?_
  have hg_1 : h < c.R 11 1 := by have := wf.sh'; omega
  refine pi_cast (nm := "") hx hb hC hown hP 5 h (cM_5 hg_1) rfl wCl_X7_53 dX7_ofHandNow_8 ?_
  refine lv_astore_n (lv' := [(3, .ref (ad 5 h)), (0, .ref (ad 0 0)), (1, .int (nI h)), (2, .int (nI w))]) hx hb dX7_ofHandNow_11 rfl hl (by decide) rfl (fun ls hl => ?_)
  refine lv_iload_n hx hb dX7_ofHandNow_12 rfl (lv_at hl 3 rfl) ?_
  by_cases c_13 : nI w = nI 0
  · skip
    refine lv_tableIn (tgt := 68) (off := 55) hx hb dX7_ofHandNow_13 (by rw [c_13]; decide) (by rw [c_13]; decide) (by rw [c_13]; decide) (by decide) ?_
    refine lv_aload_n hx hb dX7_ofHandNow_68 rfl (lv_at hl 0 rfl) ?_
    refine pi_get hx hb hC hown hP fL_X7_83 5 h (cM_5 hg_1) (v := .int (c.I 8 h)) rfl dX7_ofHandNow_69 ?_
    refine W.widen (k := 1) (n := 4) (by omega) (by omega) ?_
    exact mu_iret (x := c.I 8 h) hx hb hr hlocks hS (hX) (by first | (simp [ohS, c_13]; done) | (rw [c_13]; first | rfl | (show _ = bI _; rw [c_91]; rfl) | (show _ = nI (cntN (lofB c h) (c.R 10 2)); rw [lo_f]) | (show _ = nI (cntN (lsfB c h) (c.R 10 2)); rw [lo_t]) | (show _ = smI (c.Wr h) 8; rw [sm_8 wf (by omega) (by omega)]))) dX7_ofHandNow_72
  have c_13n0 := c_13
  clear c_13
  by_cases c_13 : nI w = nI 1
  · skip
    refine lv_tableIn (tgt := 73) (off := 60) hx hb dX7_ofHandNow_13 (by rw [c_13]; decide) (by rw [c_13]; decide) (by rw [c_13]; decide) (by decide) ?_
    refine lv_sipushN hx hb 360 dX7_ofHandNow_73 (by decide) ?_
    refine lv_aload_n hx hb dX7_ofHandNow_76 rfl (lv_at hl 0 rfl) ?_
    refine pi_get hx hb hC hown hP fL_X7_123 5 h (cM_5 hg_1) (v := .int (nI (c.R 3 h))) rfl dX7_ofHandNow_77 ?_
    have g_2 : c.R 3 h ≤ 360 := wfx.us hg_1
    refine lv_isubN hx hb dX7_ofHandNow_80 (by omega) ?_
    refine W.widen (k := 1) (n := 4) (by omega) (by omega) ?_
    exact mu_iret (x := nI (360 - (c.R 3 h))) hx hb hr hlocks hS (hX) (by first | (simp [ohS, c_13n0, c_13]; done) | (rw [c_13]; first | rfl | (show _ = bI _; rw [c_91]; rfl) | (show _ = nI (cntN (lofB c h) (c.R 10 2)); rw [lo_f]) | (show _ = nI (cntN (lsfB c h) (c.R 10 2)); rw [lo_t]) | (show _ = smI (c.Wr h) 8; rw [sm_8 wf (by omega) (by omega)]))) dX7_ofHandNow_81
  have c_13n1 := c_13
  clear c_13
  by_cases c_13 : nI w = nI 2
  · skip
    refine lv_tableIn (tgt := 82) (off := 69) hx hb dX7_ofHandNow_13 (by rw [c_13]; decide) (by rw [c_13]; decide) (by rw [c_13]; decide) (by decide) ?_
    refine lv_aload_n hx hb dX7_ofHandNow_82 rfl (lv_at hl 0 rfl) ?_
    refine pi_get hx hb hC hown hP fL_X7_148 5 h (cM_5 hg_1) (v := .int (c.I 11 h)) rfl dX7_ofHandNow_83 ?_
    refine W.widen (k := 1) (n := 4) (by omega) (by omega) ?_
    exact mu_iret (x := c.I 11 h) hx hb hr hlocks hS (hX) (by first | (simp [ohS, c_13n0, c_13n1, c_13]; done) | (rw [c_13]; first | rfl | (show _ = bI _; rw [c_91]; rfl) | (show _ = nI (cntN (lofB c h) (c.R 10 2)); rw [lo_f]) | (show _ = nI (cntN (lsfB c h) (c.R 10 2)); rw [lo_t]) | (show _ = smI (c.Wr h) 8; rw [sm_8 wf (by omega) (by omega)]))) dX7_ofHandNow_86
  have c_13n2 := c_13
  clear c_13
  by_cases c_13 : nI w = nI 3
  · skip
    refine lv_tableIn (tgt := 87) (off := 74) hx hb dX7_ofHandNow_13 (by rw [c_13]; decide) (by rw [c_13]; decide) (by rw [c_13]; decide) (by decide) ?_
    refine lv_aload_n hx hb dX7_ofHandNow_87 rfl (lv_at hl 0 rfl) ?_
    refine pi_get hx hb hC hown hP fL_X7_151 5 h (cM_5 hg_1) (v := .int (bI (c.B 0 h))) rfl dX7_ofHandNow_88 ?_
    refine lv_bif_eq (tgt := 98) hx hb dX7_ofHandNow_91 (by decide) (fun c_91 => ?_) (fun c_91 => ?_)
    · skip
      refine lv_iconstN hx hb 0 dX7_ofHandNow_98 (by decide) ?_
      refine W.widen (k := 1) (n := 4) (by omega) (by omega) ?_
      exact mu_iret (x := nI 0) hx hb hr hlocks hS (hX) (by first | (simp [ohS, c_13n0, c_13n1, c_13n2, c_13, c_91]; done) | (rw [c_13]; first | rfl | (show _ = bI _; rw [c_91]; rfl) | (show _ = nI (cntN (lofB c h) (c.R 10 2)); rw [lo_f]) | (show _ = nI (cntN (lsfB c h) (c.R 10 2)); rw [lo_t]) | (show _ = smI (c.Wr h) 8; rw [sm_8 wf (by omega) (by omega)]))) dX7_ofHandNow_99
    · skip
      refine lv_iconstN hx hb 1 dX7_ofHandNow_94 (by decide) ?_
      refine lv_goto (tgt := 99) hx hb dX7_ofHandNow_95 (by decide) ?_
      refine W.widen (k := 1) (n := 4) (by omega) (by omega) ?_
      exact mu_iret (x := nI 1) hx hb hr hlocks hS (hX) (by first | (simp [ohS, c_13n0, c_13n1, c_13n2, c_13, c_91]; done) | (rw [c_13]; first | rfl | (show _ = bI _; rw [c_91]; rfl) | (show _ = nI (cntN (lofB c h) (c.R 10 2)); rw [lo_f]) | (show _ = nI (cntN (lsfB c h) (c.R 10 2)); rw [lo_t]) | (show _ = smI (c.Wr h) 8; rw [sm_8 wf (by omega) (by omega)]))) dX7_ofHandNow_99
  have c_13n3 := c_13
  clear c_13
  by_cases c_13 : nI w = nI 4
  · skip
    refine lv_tableIn (tgt := 100) (off := 87) hx hb dX7_ofHandNow_13 (by rw [c_13]; decide) (by rw [c_13]; decide) (by rw [c_13]; decide) (by decide) ?_
    refine lv_aload_n hx hb dX7_ofHandNow_100 rfl (lv_at hl 1 rfl) ?_
    refine lv_iload_n hx hb dX7_ofHandNow_101 rfl (lv_at hl 2 rfl) ?_
    refine mu_V (As := [.int (nI h)]) (h0 := ad 0 0) (rest := []) (v := fmS c h) hx hb hml hown hC hS hAb (mX7_fame l hX h hg_1) (fun q h => h.elim (hA q) (fun z => hN q (Nat.le_trans hS.1 z))) kV_X7_200 ⟨rfl, rfl⟩ ⟨Nat.le_of_ble_eq_true rfl, Nat.le_of_ble_eq_true rfl⟩ (hP.recv hC cM_0 rfl) rfl hl (Nat.le_of_ble_eq_true rfl) ⟨show 0 + 1 ≤ (1 : Nat) by omega, show 0 + 4 ≤ (4 : Nat) by omega⟩ dX7_ofHandNow_102 (fun H locs hB hS9 hz hk => ?_)
    have hS := hS9
    have hX : PM E c th ly L ad H := hB
    obtain ⟨hP, hly, hLb, wfx, eq0, eq1, eq2⟩ := id hX
    exact mu_iret (x := fmS c h) hx hb hr hlocks hS (hX) (by first | (simp [ohS, c_13n0, c_13n1, c_13n2, c_13n3, c_13]; done) | (rw [c_13]; first | rfl | (show _ = bI _; rw [c_91]; rfl) | (show _ = nI (cntN (lofB c h) (c.R 10 2)); rw [lo_f]) | (show _ = nI (cntN (lsfB c h) (c.R 10 2)); rw [lo_t]) | (show _ = smI (c.Wr h) 8; rw [sm_8 wf (by omega) (by omega)]))) dX7_ofHandNow_105
  have c_13n4 := c_13
  clear c_13
  by_cases c_13 : nI w = nI 5
  · skip
    refine lv_tableIn (tgt := 106) (off := 93) hx hb dX7_ofHandNow_13 (by rw [c_13]; decide) (by rw [c_13]; decide) (by rw [c_13]; decide) (by decide) ?_
    refine lv_aload_n hx hb dX7_ofHandNow_106 rfl (lv_at hl 1 rfl) ?_
    refine lv_iload_n hx hb dX7_ofHandNow_107 rfl (lv_at hl 2 rfl) ?_
    refine lv_iconstN hx hb 0 dX7_ofHandNow_108 (by decide) ?_
    refine ro_V (As := [.int (nI h), .int (nI 0)]) (h0 := ad 0 0) (rest := []) (v := nI (cntN (loM c h false) (c.R 10 2))) hx hb hml hown hC hS hAb (mX7_layersOf l hX h false hg_1) kV_X7_224 ⟨rfl, rfl⟩ ⟨Nat.le_of_ble_eq_true rfl, Nat.le_of_ble_eq_true rfl⟩ (hP.recv hC cM_0 rfl) rfl hl (Nat.le_of_ble_eq_true rfl) ⟨show _ ≤ (1 : Nat) by omega, show _ ≤ (4 : Nat) by omega⟩ dX7_ofHandNow_109 ?_
    refine W.widen (k := 1) (n := 4) (by omega) (by omega) ?_
    exact mu_iret (x := nI (cntN (loM c h false) (c.R 10 2))) hx hb hr hlocks hS (hX) (by first | (simp [ohS, c_13n0, c_13n1, c_13n2, c_13n3, c_13n4, c_13]; done) | (rw [c_13]; first | rfl | (show _ = bI _; rw [c_91]; rfl) | (show _ = nI (cntN (lofB c h) (c.R 10 2)); rw [lo_f]) | (show _ = nI (cntN (lsfB c h) (c.R 10 2)); rw [lo_t]) | (show _ = smI (c.Wr h) 8; rw [sm_8 wf (by omega) (by omega)]))) dX7_ofHandNow_112
  have c_13n5 := c_13
  clear c_13
  by_cases c_13 : nI w = nI 6
  · skip
    refine lv_tableIn (tgt := 113) (off := 100) hx hb dX7_ofHandNow_13 (by rw [c_13]; decide) (by rw [c_13]; decide) (by rw [c_13]; decide) (by decide) ?_
    refine lv_aload_n hx hb dX7_ofHandNow_113 rfl (lv_at hl 1 rfl) ?_
    refine lv_iload_n hx hb dX7_ofHandNow_114 rfl (lv_at hl 2 rfl) ?_
    refine lv_iconstN hx hb 1 dX7_ofHandNow_115 (by decide) ?_
    refine ro_V (As := [.int (nI h), .int (nI 1)]) (h0 := ad 0 0) (rest := []) (v := nI (cntN (loM c h true) (c.R 10 2))) hx hb hml hown hC hS hAb (mX7_layersOf l hX h true hg_1) kV_X7_224 ⟨rfl, rfl⟩ ⟨Nat.le_of_ble_eq_true rfl, Nat.le_of_ble_eq_true rfl⟩ (hP.recv hC cM_0 rfl) rfl hl (Nat.le_of_ble_eq_true rfl) ⟨show _ ≤ (1 : Nat) by omega, show _ ≤ (4 : Nat) by omega⟩ dX7_ofHandNow_116 ?_
    refine W.widen (k := 1) (n := 4) (by omega) (by omega) ?_
    exact mu_iret (x := nI (cntN (loM c h true) (c.R 10 2))) hx hb hr hlocks hS (hX) (by first | (simp [ohS, c_13n0, c_13n1, c_13n2, c_13n3, c_13n4, c_13n5, c_13]; done) | (rw [c_13]; first | rfl | (show _ = bI _; rw [c_91]; rfl) | (show _ = nI (cntN (lofB c h) (c.R 10 2)); rw [lo_f]) | (show _ = nI (cntN (lsfB c h) (c.R 10 2)); rw [lo_t]) | (show _ = smI (c.Wr h) 8; rw [sm_8 wf (by omega) (by omega)]))) dX7_ofHandNow_119
  have c_13n6 := c_13
  clear c_13
  by_cases c_13 : nI w = nI 7
  · skip
    refine lv_tableIn (tgt := 120) (off := 107) hx hb dX7_ofHandNow_13 (by rw [c_13]; decide) (by rw [c_13]; decide) (by rw [c_13]; decide) (by decide) ?_
    refine lv_aload_n hx hb dX7_ofHandNow_120 rfl (lv_at hl 1 rfl) ?_
    refine lv_iload_n hx hb dX7_ofHandNow_121 rfl (lv_at hl 2 rfl) ?_
    refine lv_iconstN hx hb 1 dX7_ofHandNow_122 (by decide) ?_
    refine ro_V (As := [.int (nI h), .int (nI 1)]) (h0 := ad 0 0) (rest := []) (v := smI (wrM c h true) (c.R 10 1)) hx hb hml hown hC hS hAb (mX7_wrongsOf_ l hX h true hg_1) kV_X7_228 ⟨rfl, rfl⟩ ⟨Nat.le_of_ble_eq_true rfl, Nat.le_of_ble_eq_true rfl⟩ (hP.recv hC cM_0 rfl) rfl hl (Nat.le_of_ble_eq_true rfl) ⟨show _ ≤ (1 : Nat) by omega, show _ ≤ (4 : Nat) by omega⟩ dX7_ofHandNow_123 ?_
    refine W.widen (k := 1) (n := 4) (by omega) (by omega) ?_
    exact mu_iret (x := smI (wrM c h true) (c.R 10 1)) hx hb hr hlocks hS (hX) (by first | (simp [ohS, c_13n0, c_13n1, c_13n2, c_13n3, c_13n4, c_13n5, c_13n6, c_13]; done) | (rw [c_13]; first | rfl | (show _ = bI _; rw [c_91]; rfl) | (show _ = nI (cntN (lofB c h) (c.R 10 2)); rw [lo_f]) | (show _ = nI (cntN (lsfB c h) (c.R 10 2)); rw [lo_t]) | (show _ = smI (c.Wr h) 8; rw [sm_8 wf (by omega) (by omega)]))) dX7_ofHandNow_126
  have c_13n7 := c_13
  clear c_13
  by_cases c_13 : nI w = nI 8
  · skip
    refine lv_tableIn (tgt := 127) (off := 114) hx hb dX7_ofHandNow_13 (by rw [c_13]; decide) (by rw [c_13]; decide) (by rw [c_13]; decide) (by decide) ?_
    refine lv_aload_n hx hb dX7_ofHandNow_127 rfl (lv_at hl 1 rfl) ?_
    refine lv_iload_n hx hb dX7_ofHandNow_128 rfl (lv_at hl 2 rfl) ?_
    refine lv_iconstN hx hb 0 dX7_ofHandNow_129 (by decide) ?_
    refine ro_V (As := [.int (nI h), .int (nI 0)]) (h0 := ad 0 0) (rest := []) (v := smI (wrM c h false) (c.R 10 1)) hx hb hml hown hC hS hAb (mX7_wrongsOf_ l hX h false hg_1) kV_X7_228 ⟨rfl, rfl⟩ ⟨Nat.le_of_ble_eq_true rfl, Nat.le_of_ble_eq_true rfl⟩ (hP.recv hC cM_0 rfl) rfl hl (Nat.le_of_ble_eq_true rfl) ⟨show _ ≤ (1 : Nat) by omega, show _ ≤ (4 : Nat) by omega⟩ dX7_ofHandNow_130 ?_
    refine W.widen (k := 1) (n := 4) (by omega) (by omega) ?_
    exact mu_iret (x := smI (wrM c h false) (c.R 10 1)) hx hb hr hlocks hS (hX) (by first | (simp [ohS, c_13n0, c_13n1, c_13n2, c_13n3, c_13n4, c_13n5, c_13n6, c_13n7, c_13]; done) | (rw [c_13]; first | rfl | (show _ = bI _; rw [c_91]; rfl) | (show _ = nI (cntN (lofB c h) (c.R 10 2)); rw [lo_f]) | (show _ = nI (cntN (lsfB c h) (c.R 10 2)); rw [lo_t]) | (show _ = smI (c.Wr h) 8; rw [sm_8 wf (by omega) (by omega)]))) dX7_ofHandNow_133
  have c_13n8 := c_13
  clear c_13
  by_cases c_13 : nI w = nI 9
  · skip
    refine lv_tableIn (tgt := 134) (off := 121) hx hb dX7_ofHandNow_13 (by rw [c_13]; decide) (by rw [c_13]; decide) (by rw [c_13]; decide) (by decide) ?_
    refine lv_aload_n hx hb dX7_ofHandNow_134 rfl (lv_at hl 0 rfl) ?_
    refine pi_get hx hb hC hown hP fL_X7_168 5 h (cM_5 hg_1) (v := .int (c.I 14 h)) rfl dX7_ofHandNow_135 ?_
    refine W.widen (k := 1) (n := 4) (by omega) (by omega) ?_
    exact mu_iret (x := c.I 14 h) hx hb hr hlocks hS (hX) (by first | (simp [ohS, c_13n0, c_13n1, c_13n2, c_13n3, c_13n4, c_13n5, c_13n6, c_13n7, c_13n8, c_13]; done) | (rw [c_13]; first | rfl | (show _ = bI _; rw [c_91]; rfl) | (show _ = nI (cntN (lofB c h) (c.R 10 2)); rw [lo_f]) | (show _ = nI (cntN (lsfB c h) (c.R 10 2)); rw [lo_t]) | (show _ = smI (c.Wr h) 8; rw [sm_8 wf (by omega) (by omega)]))) dX7_ofHandNow_138
  have c_13n9 := c_13
  clear c_13
  refine lv_tableOut (tgt := 139) hx hb dX7_ofHandNow_13 (sw_out 10 (fun k hk => by match k, hk with | 0, _ => exact c_13n0 | 1, _ => exact c_13n1 | 2, _ => exact c_13n2 | 3, _ => exact c_13n3 | 4, _ => exact c_13n4 | 5, _ => exact c_13n5 | 6, _ => exact c_13n6 | 7, _ => exact c_13n7 | 8, _ => exact c_13n8 | 9, _ => exact c_13n9)) (by decide) ?_
  refine lv_aload_n hx hb dX7_ofHandNow_139 rfl (lv_at hl 0 rfl) ?_
  refine pi_get hx hb hC hown hP fL_X7_145 5 h (cM_5 hg_1) (v := .int (c.I 13 h)) rfl dX7_ofHandNow_140 ?_
  refine W.widen (k := 1) (n := 4) (by omega) (by omega) ?_
  exact mu_iret (x := c.I 13 h) hx hb hr hlocks hS (hX) (by first | (simp [ohS, c_13n0, c_13n1, c_13n2, c_13n3, c_13n4, c_13n5, c_13n6, c_13n7, c_13n8, c_13n9]; done) | (rw [c_13]; first | rfl | (show _ = bI _; rw [c_91]; rfl) | (show _ = nI (cntN (lofB c h) (c.R 10 2)); rw [lo_f]) | (show _ = nI (cntN (lsfB c h) (c.R 10 2)); rw [lo_t]) | (show _ = smI (c.Wr h) 8; rw [sm_8 wf (by omega) (by omega)]))) dX7_ofHandNow_143
set_option maxHeartbeats 4000000 in
set_option maxRecDepth 100000 in
theorem mX7_ofLayerNow (l : Launch) {E : En} {c : Cy} {th : Int32} {ly : Ly} {L : List Nat} {ad : Nat → Nat → Nat} {H0 : Heap} (hX : PM E c th ly L ad H0) (j w : Nat) (hj : j < c.R 10 2) (hw : w ≤ 13) : MuI l yX7_ofLayerNow cX7_ofLayerNow 4 .int (rmk 5 1 4 113) [.ref (ad 0 0), .int (nI j), .int (nI w)] E H0 (olS c j (nI w)) (fun H1 => PM E c th ly L ad H1) (cA L H0) 1 4 := by
  obtain ⟨hP, hly, hLb, wf, eq0, eq1, eq2⟩ := id hX
  have wfx := wf
  refine ro_of (by decide) (Nat.le_of_ble_eq_true rfl) ?_
  intro p e s m below meth co ls hx hb hr hml hown hlocks hnm hC hU hl
  have hS : va_S (cA L H0) s.heap H0 [] := by rw [hU]; exact va_S.rf
  have hA : ∀ q, q ∈ L → cA L H0 q := fun q h => Or.inl h
  have hN : ∀ q, s.heap.size ≤ q → cA L H0 q := fun q h => Or.inr (by rw [← hU]; exact h)
  have hAb : ∀ q, cA L H0 q → bA E q := fun q h => h.elim (hLb q) (fun z => Nat.le_trans hC.2.2.2.1 (by rw [hU]; exact z))
  have hl : lv_has ls 4 [(0, .ref (ad 0 0)), (1, .int (nI j)), (2, .int (nI w))] := hl
  have gs := wf.sl
  have gl := wf.nl
  refine lv_aload_n hx hb dX7_ofLayerNow_0 rfl (lv_at hl 0 rfl) ?_
  refine pi_get hx hb hC hown hP fL_X7_23 0 0 cM_0 (v := .ref (ad 1 2)) rfl dX7_ofLayerNow_1 ?_
  refine lv_iload_n hx hb dX7_ofLayerNow_4 rfl (lv_at hl 1 rfl) ?_
  refine ro_VR (As := [.int (nI j)]) (h0 := ad 1 2) (rest := []) (v := some (ad 7 j)) hx hb hml hown hC hS hAb (mJ_get l hP 2 (cM_1 (by decide)) (fun h9 => cM_2 (by decide) h9) (hly 2 (by decide)) j (by first | assumption | omega)) kV_X7_63 ⟨rfl, rfl⟩ ⟨Nat.le_of_ble_eq_true rfl, Nat.le_of_ble_eq_true rfl⟩ (hP.recv hC (cM_1 (i := 2) (by decide)) rfl) rfl hl (Nat.le_of_ble_eq_true rfl) ⟨show _ ≤ (1 : Nat) by omega, show _ ≤ (4 : Nat) by omega⟩ dX7_ofLayerNow_5 ?_
  have hg_1 : j < c.R 11 2 := by have := wf.sl; omega
  refine pi_cast (nm := "") hx hb hC hown hP 7 j (cM_7 hg_1) rfl wCl_X7_85 dX7_ofLayerNow_8 ?_
  refine lv_astore_n (lv' := [(3, .ref (ad 7 j)), (0, .ref (ad 0 0)), (1, .int (nI j)), (2, .int (nI w))]) hx hb dX7_ofLayerNow_11 rfl hl (by decide) rfl (fun ls hl => ?_)
  refine lv_iload_n hx hb dX7_ofLayerNow_12 rfl (lv_at hl 3 rfl) ?_
  by_cases c_13 : nI w = nI 0
  · skip
    refine lv_tableIn (tgt := 80) (off := 67) hx hb dX7_ofLayerNow_13 (by rw [c_13]; decide) (by rw [c_13]; decide) (by rw [c_13]; decide) (by decide) ?_
    refine lv_aload_n hx hb dX7_ofLayerNow_80 rfl (lv_at hl 0 rfl) ?_
    refine pi_get hx hb hC hown hP fL_X7_84 7 j (cM_7 hg_1) (v := .int (nI (c.R 5 j))) rfl dX7_ofLayerNow_81 ?_
    have g_2 : c.R 5 j < c.R 11 1 := wfx.lh hg_1
    refine W.widen (k := 1) (n := 4) (by omega) (by omega) ?_
    exact mu_iret (x := nI (c.R 5 j)) hx hb hr hlocks hS (hX) (by first | (simp [olS, c_13]; done) | (rw [c_13]; first | rfl | (show _ = bI _; rw [c_114]; rfl) | (show _ = bI _; rw [c_127]; rfl) | (show _ = bI _; rw [c_140]; rfl))) dX7_ofLayerNow_84
  have c_13n0 := c_13
  clear c_13
  by_cases c_13 : nI w = nI 1
  · skip
    refine lv_tableIn (tgt := 85) (off := 72) hx hb dX7_ofLayerNow_13 (by rw [c_13]; decide) (by rw [c_13]; decide) (by rw [c_13]; decide) (by decide) ?_
    refine lv_aload_n hx hb dX7_ofLayerNow_85 rfl (lv_at hl 0 rfl) ?_
    refine pi_get hx hb hC hown hP fL_X7_174 7 j (cM_7 hg_1) (v := .int (nI (c.R 6 j))) rfl dX7_ofLayerNow_86 ?_
    have g_3 : c.R 6 j < c.R 11 0 := wfx.lw hg_1
    refine W.widen (k := 1) (n := 4) (by omega) (by omega) ?_
    exact mu_iret (x := nI (c.R 6 j)) hx hb hr hlocks hS (hX) (by first | (simp [olS, c_13n0, c_13]; done) | (rw [c_13]; first | rfl | (show _ = bI _; rw [c_114]; rfl) | (show _ = bI _; rw [c_127]; rfl) | (show _ = bI _; rw [c_140]; rfl))) dX7_ofLayerNow_89
  have c_13n1 := c_13
  clear c_13
  by_cases c_13 : nI w = nI 2
  · skip
    refine lv_tableIn (tgt := 90) (off := 77) hx hb dX7_ofLayerNow_13 (by rw [c_13]; decide) (by rw [c_13]; decide) (by rw [c_13]; decide) (by decide) ?_
    refine lv_aload_n hx hb dX7_ofLayerNow_90 rfl (lv_at hl 0 rfl) ?_
    refine pi_get hx hb hC hown hP fL_X7_240 7 j (cM_7 hg_1) (v := .int (nI (c.R 7 j))) rfl dX7_ofLayerNow_91 ?_
    have g_4 : 1 ≤ c.R 8 j ∧ c.R 7 j + c.R 8 j ≤ c.R 1 (c.R 6 j) := wfx.lf hg_1
    refine W.widen (k := 1) (n := 4) (by omega) (by omega) ?_
    exact mu_iret (x := nI (c.R 7 j)) hx hb hr hlocks hS (hX) (by first | (simp [olS, c_13n0, c_13n1, c_13]; done) | (rw [c_13]; first | rfl | (show _ = bI _; rw [c_114]; rfl) | (show _ = bI _; rw [c_127]; rfl) | (show _ = bI _; rw [c_140]; rfl))) dX7_ofLayerNow_94
  have c_13n2 := c_13
  clear c_13
  by_cases c_13 : nI w = nI 3
  · skip
    refine lv_tableIn (tgt := 95) (off := 82) hx hb dX7_ofLayerNow_13 (by rw [c_13]; decide) (by rw [c_13]; decide) (by rw [c_13]; decide) (by decide) ?_
    refine lv_aload_n hx hb dX7_ofLayerNow_95 rfl (lv_at hl 0 rfl) ?_
    refine pi_get hx hb hC hown hP fL_X7_241 7 j (cM_7 hg_1) (v := .int (nI (c.R 8 j))) rfl dX7_ofLayerNow_96 ?_
    have g_5 : 1 ≤ c.R 8 j ∧ c.R 7 j + c.R 8 j ≤ c.R 1 (c.R 6 j) := wfx.lf hg_1
    refine W.widen (k := 1) (n := 4) (by omega) (by omega) ?_
    exact mu_iret (x := nI (c.R 8 j)) hx hb hr hlocks hS (hX) (by first | (simp [olS, c_13n0, c_13n1, c_13n2, c_13]; done) | (rw [c_13]; first | rfl | (show _ = bI _; rw [c_114]; rfl) | (show _ = bI _; rw [c_127]; rfl) | (show _ = bI _; rw [c_140]; rfl))) dX7_ofLayerNow_99
  have c_13n3 := c_13
  clear c_13
  by_cases c_13 : nI w = nI 4
  · skip
    refine lv_tableIn (tgt := 100) (off := 87) hx hb dX7_ofLayerNow_13 (by rw [c_13]; decide) (by rw [c_13]; decide) (by rw [c_13]; decide) (by decide) ?_
    refine lv_aload_n hx hb dX7_ofLayerNow_100 rfl (lv_at hl 0 rfl) ?_
    refine pi_get hx hb hC hown hP fL_X7_93 7 j (cM_7 hg_1) (v := .int (nI (c.R 9 j))) rfl dX7_ofLayerNow_101 ?_
    have g_6 : c.R 9 j < 4 := wfx.lk hg_1
    refine W.widen (k := 1) (n := 4) (by omega) (by omega) ?_
    exact mu_iret (x := nI (c.R 9 j)) hx hb hr hlocks hS (hX) (by first | (simp [olS, c_13n0, c_13n1, c_13n2, c_13n3, c_13]; done) | (rw [c_13]; first | rfl | (show _ = bI _; rw [c_114]; rfl) | (show _ = bI _; rw [c_127]; rfl) | (show _ = bI _; rw [c_140]; rfl))) dX7_ofLayerNow_104
  have c_13n4 := c_13
  clear c_13
  by_cases c_13 : nI w = nI 5
  · skip
    refine lv_tableIn (tgt := 105) (off := 92) hx hb dX7_ofLayerNow_13 (by rw [c_13]; decide) (by rw [c_13]; decide) (by rw [c_13]; decide) (by decide) ?_
    refine lv_aload_n hx hb dX7_ofLayerNow_105 rfl (lv_at hl 0 rfl) ?_
    refine pi_get hx hb hC hown hP fL_X7_96 7 j (cM_7 hg_1) (v := .int (c.I 16 j)) rfl dX7_ofLayerNow_106 ?_
    refine W.widen (k := 1) (n := 4) (by omega) (by omega) ?_
    exact mu_iret (x := c.I 16 j) hx hb hr hlocks hS (hX) (by first | (simp [olS, c_13n0, c_13n1, c_13n2, c_13n3, c_13n4, c_13]; done) | (rw [c_13]; first | rfl | (show _ = bI _; rw [c_114]; rfl) | (show _ = bI _; rw [c_127]; rfl) | (show _ = bI _; rw [c_140]; rfl))) dX7_ofLayerNow_109
  have c_13n5 := c_13
  clear c_13
  by_cases c_13 : nI w = nI 6
  · skip
    refine lv_tableIn (tgt := 110) (off := 97) hx hb dX7_ofLayerNow_13 (by rw [c_13]; decide) (by rw [c_13]; decide) (by rw [c_13]; decide) (by decide) ?_
    refine lv_aload_n hx hb dX7_ofLayerNow_110 rfl (lv_at hl 0 rfl) ?_
    refine pi_get hx hb hC hown hP fL_X7_154 7 j (cM_7 hg_1) (v := .int (bI (c.B 1 j))) rfl dX7_ofLayerNow_111 ?_
    refine lv_bif_eq (tgt := 121) hx hb dX7_ofLayerNow_114 (by decide) (fun c_114 => ?_) (fun c_114 => ?_)
    · skip
      refine lv_iconstN hx hb 0 dX7_ofLayerNow_121 (by decide) ?_
      refine W.widen (k := 1) (n := 4) (by omega) (by omega) ?_
      exact mu_iret (x := nI 0) hx hb hr hlocks hS (hX) (by first | (simp [olS, c_13n0, c_13n1, c_13n2, c_13n3, c_13n4, c_13n5, c_13, c_114]; done) | (rw [c_13]; first | rfl | (show _ = bI _; rw [c_114]; rfl) | (show _ = bI _; rw [c_127]; rfl) | (show _ = bI _; rw [c_140]; rfl))) dX7_ofLayerNow_122
    · skip
      refine lv_iconstN hx hb 1 dX7_ofLayerNow_117 (by decide) ?_
      refine lv_goto (tgt := 122) hx hb dX7_ofLayerNow_118 (by decide) ?_
      refine W.widen (k := 1) (n := 4) (by omega) (by omega) ?_
      exact mu_iret (x := nI 1) hx hb hr hlocks hS (hX) (by first | (simp [olS, c_13n0, c_13n1, c_13n2, c_13n3, c_13n4, c_13n5, c_13, c_114]; done) | (rw [c_13]; first | rfl | (show _ = bI _; rw [c_114]; rfl) | (show _ = bI _; rw [c_127]; rfl) | (show _ = bI _; rw [c_140]; rfl))) dX7_ofLayerNow_122
  have c_13n6 := c_13
  clear c_13
  by_cases c_13 : nI w = nI 7
  · skip
    refine lv_tableIn (tgt := 123) (off := 110) hx hb dX7_ofLayerNow_13 (by rw [c_13]; decide) (by rw [c_13]; decide) (by rw [c_13]; decide) (by decide) ?_
    refine lv_aload_n hx hb dX7_ofLayerNow_123 rfl (lv_at hl 0 rfl) ?_
    refine pi_get hx hb hC hown hP fL_X7_162 7 j (cM_7 hg_1) (v := .int (bI (c.B 2 j))) rfl dX7_ofLayerNow_124 ?_
    refine lv_bif_eq (tgt := 134) hx hb dX7_ofLayerNow_127 (by decide) (fun c_127 => ?_) (fun c_127 => ?_)
    · skip
      refine lv_iconstN hx hb 0 dX7_ofLayerNow_134 (by decide) ?_
      refine W.widen (k := 1) (n := 4) (by omega) (by omega) ?_
      exact mu_iret (x := nI 0) hx hb hr hlocks hS (hX) (by first | (simp [olS, c_13n0, c_13n1, c_13n2, c_13n3, c_13n4, c_13n5, c_13n6, c_13, c_127]; done) | (rw [c_13]; first | rfl | (show _ = bI _; rw [c_114]; rfl) | (show _ = bI _; rw [c_127]; rfl) | (show _ = bI _; rw [c_140]; rfl))) dX7_ofLayerNow_135
    · skip
      refine lv_iconstN hx hb 1 dX7_ofLayerNow_130 (by decide) ?_
      refine lv_goto (tgt := 135) hx hb dX7_ofLayerNow_131 (by decide) ?_
      refine W.widen (k := 1) (n := 4) (by omega) (by omega) ?_
      exact mu_iret (x := nI 1) hx hb hr hlocks hS (hX) (by first | (simp [olS, c_13n0, c_13n1, c_13n2, c_13n3, c_13n4, c_13n5, c_13n6, c_13, c_127]; done) | (rw [c_13]; first | rfl | (show _ = bI _; rw [c_114]; rfl) | (show _ = bI _; rw [c_127]; rfl) | (show _ = bI _; rw [c_140]; rfl))) dX7_ofLayerNow_135
  have c_13n7 := c_13
  clear c_13
  by_cases c_13 : nI w = nI 8
  · skip
    refine lv_tableIn (tgt := 136) (off := 123) hx hb dX7_ofLayerNow_13 (by rw [c_13]; decide) (by rw [c_13]; decide) (by rw [c_13]; decide) (by decide) ?_
    refine lv_aload_n hx hb dX7_ofLayerNow_136 rfl (lv_at hl 0 rfl) ?_
    refine pi_get hx hb hC hown hP fL_X7_89 7 j (cM_7 hg_1) (v := .int (bI (c.B 3 j))) rfl dX7_ofLayerNow_137 ?_
    refine lv_bif_eq (tgt := 147) hx hb dX7_ofLayerNow_140 (by decide) (fun c_140 => ?_) (fun c_140 => ?_)
    · skip
      refine lv_iconstN hx hb 0 dX7_ofLayerNow_147 (by decide) ?_
      refine W.widen (k := 1) (n := 4) (by omega) (by omega) ?_
      exact mu_iret (x := nI 0) hx hb hr hlocks hS (hX) (by first | (simp [olS, c_13n0, c_13n1, c_13n2, c_13n3, c_13n4, c_13n5, c_13n6, c_13n7, c_13, c_140]; done) | (rw [c_13]; first | rfl | (show _ = bI _; rw [c_114]; rfl) | (show _ = bI _; rw [c_127]; rfl) | (show _ = bI _; rw [c_140]; rfl))) dX7_ofLayerNow_148
    · skip
      refine lv_iconstN hx hb 1 dX7_ofLayerNow_143 (by decide) ?_
      refine lv_goto (tgt := 148) hx hb dX7_ofLayerNow_144 (by decide) ?_
      refine W.widen (k := 1) (n := 4) (by omega) (by omega) ?_
      exact mu_iret (x := nI 1) hx hb hr hlocks hS (hX) (by first | (simp [olS, c_13n0, c_13n1, c_13n2, c_13n3, c_13n4, c_13n5, c_13n6, c_13n7, c_13, c_140]; done) | (rw [c_13]; first | rfl | (show _ = bI _; rw [c_114]; rfl) | (show _ = bI _; rw [c_127]; rfl) | (show _ = bI _; rw [c_140]; rfl))) dX7_ofLayerNow_148
  have c_13n8 := c_13
  clear c_13
  by_cases c_13 : nI w = nI 9
  · skip
    refine lv_tableIn (tgt := 149) (off := 136) hx hb dX7_ofLayerNow_13 (by rw [c_13]; decide) (by rw [c_13]; decide) (by rw [c_13]; decide) (by decide) ?_
    refine lv_aload_n hx hb dX7_ofLayerNow_149 rfl (lv_at hl 1 rfl) ?_
    refine lv_iload_n hx hb dX7_ofLayerNow_150 rfl (lv_at hl 2 rfl) ?_
    refine ro_V (As := [.int (nI j)]) (h0 := ad 0 0) (rest := []) (v := nI (seenS c j)) hx hb hml hown hC hS hAb (mX7_seen l hX j hg_1) kV_X7_197 ⟨rfl, rfl⟩ ⟨Nat.le_of_ble_eq_true rfl, Nat.le_of_ble_eq_true rfl⟩ (hP.recv hC cM_0 rfl) rfl hl (Nat.le_of_ble_eq_true rfl) ⟨show _ ≤ (1 : Nat) by omega, show _ ≤ (4 : Nat) by omega⟩ dX7_ofLayerNow_151 ?_
    have g_7 := seen_le wf (j := j) hg_1
    refine W.widen (k := 1) (n := 4) (by omega) (by omega) ?_
    exact mu_iret (x := nI (seenS c j)) hx hb hr hlocks hS (hX) (by first | (simp [olS, c_13n0, c_13n1, c_13n2, c_13n3, c_13n4, c_13n5, c_13n6, c_13n7, c_13n8, c_13]; done) | (rw [c_13]; first | rfl | (show _ = bI _; rw [c_114]; rfl) | (show _ = bI _; rw [c_127]; rfl) | (show _ = bI _; rw [c_140]; rfl))) dX7_ofLayerNow_154
  have c_13n9 := c_13
  clear c_13
  by_cases c_13 : nI w = nI 10
  · skip
    refine lv_tableIn (tgt := 155) (off := 142) hx hb dX7_ofLayerNow_13 (by rw [c_13]; decide) (by rw [c_13]; decide) (by rw [c_13]; decide) (by decide) ?_
    refine lv_aload_n hx hb dX7_ofLayerNow_155 rfl (lv_at hl 0 rfl) ?_
    refine pi_get hx hb hC hown hP fL_X7_233 7 j (cM_7 hg_1) (v := .int (slS c j)) rfl dX7_ofLayerNow_156 ?_
    refine W.widen (k := 1) (n := 4) (by omega) (by omega) ?_
    exact mu_iret (x := slS c j) hx hb hr hlocks hS (hX) (by first | (simp [olS, c_13n0, c_13n1, c_13n2, c_13n3, c_13n4, c_13n5, c_13n6, c_13n7, c_13n8, c_13n9, c_13]; done) | (rw [c_13]; first | rfl | (show _ = bI _; rw [c_114]; rfl) | (show _ = bI _; rw [c_127]; rfl) | (show _ = bI _; rw [c_140]; rfl))) dX7_ofLayerNow_159
  have c_13n10 := c_13
  clear c_13
  by_cases c_13 : nI w = nI 11
  · skip
    refine lv_tableIn (tgt := 160) (off := 147) hx hb dX7_ofLayerNow_13 (by rw [c_13]; decide) (by rw [c_13]; decide) (by rw [c_13]; decide) (by decide) ?_
    refine lv_aload_n hx hb dX7_ofLayerNow_160 rfl (lv_at hl 0 rfl) ?_
    refine pi_get hx hb hC hown hP fL_X7_239 7 j (cM_7 hg_1) (v := .int (rdS c j)) rfl dX7_ofLayerNow_161 ?_
    refine W.widen (k := 1) (n := 4) (by omega) (by omega) ?_
    exact mu_iret (x := rdS c j) hx hb hr hlocks hS (hX) (by first | (simp [olS, c_13n0, c_13n1, c_13n2, c_13n3, c_13n4, c_13n5, c_13n6, c_13n7, c_13n8, c_13n9, c_13n10, c_13]; done) | (rw [c_13]; first | rfl | (show _ = bI _; rw [c_114]; rfl) | (show _ = bI _; rw [c_127]; rfl) | (show _ = bI _; rw [c_140]; rfl))) dX7_ofLayerNow_164
  have c_13n11 := c_13
  clear c_13
  by_cases c_13 : nI w = nI 12
  · skip
    refine lv_tableIn (tgt := 165) (off := 152) hx hb dX7_ofLayerNow_13 (by rw [c_13]; decide) (by rw [c_13]; decide) (by rw [c_13]; decide) (by decide) ?_
    refine lv_aload_n hx hb dX7_ofLayerNow_165 rfl (lv_at hl 1 rfl) ?_
    refine lv_iload_n hx hb dX7_ofLayerNow_166 rfl (lv_at hl 2 rfl) ?_
    refine mu_V (As := [.int (nI j)]) (h0 := ad 0 0) (rest := []) (v := prS c j) hx hb hml hown hC hS hAb (mX7_price l hX j (by first | assumption | omega | decide | (simp only [decide_eq_false_iff_not, decide_eq_true_eq] at *; omega))) (fun q h => h.elim (hA q) (fun z => hN q (Nat.le_trans hS.1 z))) kV_X7_206 ⟨rfl, rfl⟩ ⟨Nat.le_of_ble_eq_true rfl, Nat.le_of_ble_eq_true rfl⟩ (hP.recv hC cM_0 rfl) rfl hl (Nat.le_of_ble_eq_true rfl) ⟨show 0 + 1 ≤ (1 : Nat) by omega, show 0 + 4 ≤ (4 : Nat) by omega⟩ dX7_ofLayerNow_167 (fun H locs hB hS9 hz hk => ?_)
    have hS := hS9
    have hX : PM E c th ly L ad H := hB
    obtain ⟨hP, hly, hLb, wfx, eq0, eq1, eq2⟩ := id hX
    exact mu_iret (x := prS c j) hx hb hr hlocks hS (hX) (by first | (simp [olS, c_13n0, c_13n1, c_13n2, c_13n3, c_13n4, c_13n5, c_13n6, c_13n7, c_13n8, c_13n9, c_13n10, c_13n11, c_13]; done) | (rw [c_13]; first | rfl | (show _ = bI _; rw [c_114]; rfl) | (show _ = bI _; rw [c_127]; rfl) | (show _ = bI _; rw [c_140]; rfl))) dX7_ofLayerNow_170
  have c_13n12 := c_13
  clear c_13
  refine lv_tableOut (tgt := 171) hx hb dX7_ofLayerNow_13 (sw_out 13 (fun k hk => by match k, hk with | 0, _ => exact c_13n0 | 1, _ => exact c_13n1 | 2, _ => exact c_13n2 | 3, _ => exact c_13n3 | 4, _ => exact c_13n4 | 5, _ => exact c_13n5 | 6, _ => exact c_13n6 | 7, _ => exact c_13n7 | 8, _ => exact c_13n8 | 9, _ => exact c_13n9 | 10, _ => exact c_13n10 | 11, _ => exact c_13n11 | 12, _ => exact c_13n12)) (by decide) ?_
  refine lv_aload_n hx hb dX7_ofLayerNow_171 rfl (lv_at hl 1 rfl) ?_
  refine lv_aload_n hx hb dX7_ofLayerNow_172 rfl (lv_at hl 0 rfl) ?_
  refine ro_V (As := [.ref (ad 7 j)]) (h0 := ad 0 0) (rest := []) (v := suS c j) hx hb hml hown hC hS hAb (mX7_suspect l hX j hg_1) kV_X7_244 ⟨rfl, rfl⟩ ⟨Nat.le_of_ble_eq_true rfl, Nat.le_of_ble_eq_true rfl⟩ (hP.recv hC cM_0 rfl) rfl hl (Nat.le_of_ble_eq_true rfl) ⟨show _ ≤ (1 : Nat) by omega, show _ ≤ (4 : Nat) by omega⟩ dX7_ofLayerNow_173 ?_
  refine W.widen (k := 1) (n := 4) (by omega) (by omega) ?_
  exact mu_iret (x := suS c j) hx hb hr hlocks hS (hX) (by first | (simp [olS, c_13n0, c_13n1, c_13n2, c_13n3, c_13n4, c_13n5, c_13n6, c_13n7, c_13n8, c_13n9, c_13n10, c_13n11, c_13n12]; done) | (rw [c_13]; first | rfl | (show _ = bI _; rw [c_114]; rfl) | (show _ = bI _; rw [c_127]; rfl) | (show _ = bI _; rw [c_140]; rfl))) dX7_ofLayerNow_176
set_option maxHeartbeats 4000000 in
set_option maxRecDepth 100000 in
theorem mX7_ofHands (l : Launch) {E : En} {c : Cy} {th : Int32} {ly : Ly} {L : List Nat} {ad : Nat → Nat → Nat} {H0 : Heap} (hX : PM E c th ly L ad H0) (w : Nat) (hw : w ≤ 10) : MuI l yX7_ofHands cX7_ofHands 4 .int (rmk 6 8 32 132) [.ref (ad 0 0), .int (nI w)] E H0 (smI (fun k => ohS c k (nI w)) (c.R 10 1)) (fun H1 => PM E c th ly L ad H1) (cA L H0) 8 32 := by
  obtain ⟨hP, hly, hLb, wf, eq0, eq1, eq2⟩ := id hX
  have wfx := wf
  refine ro_of (by decide) (Nat.le_of_ble_eq_true rfl) ?_
  intro p e s m below meth co ls hx hb hr hml hown hlocks hnm hC hU hl
  have hS : va_S (cA L H0) s.heap H0 [] := by rw [hU]; exact va_S.rf
  have hA : ∀ q, q ∈ L → cA L H0 q := fun q h => Or.inl h
  have hN : ∀ q, s.heap.size ≤ q → cA L H0 q := fun q h => Or.inr (by rw [← hU]; exact h)
  have hAb : ∀ q, cA L H0 q → bA E q := fun q h => h.elim (hLb q) (fun z => Nat.le_trans hC.2.2.2.1 (by rw [hU]; exact z))
  have hl : lv_has ls 4 [(0, .ref (ad 0 0)), (1, .int (nI w))] := hl
  have gs := wf.sh'
  have gh := wf.nh
  refine lv_iconstN hx hb 0 dX7_ofHands_0 (by decide) ?_
  refine lv_istore_n (lv' := [(2, .int (nI 0)), (0, .ref (ad 0 0)), (1, .int (nI w))]) hx hb dX7_ofHands_1 rfl hl (by decide) rfl (fun ls hl => ?_)
  refine lv_iconstN hx hb 0 dX7_ofHands_2 (by decide) ?_
  refine lv_istore_n (lv' := [(3, .int (nI 0)), (2, .int (nI 0)), (0, .ref (ad 0 0)), (1, .int (nI w))]) hx hb dX7_ofHands_3 rfl hl (by decide) rfl (fun ls hl => ?_)
  have lp4 : ∀ fu : Nat, ∀ (k : Nat) (a : Int32), k ≤ c.R 10 1 → a = smI (fun k => ohS c k (nI w)) k → c.R 10 1 - k < fu → ∀ (H : Heap) (locs : List Loc), PM E c th ly L ad H → va_S (cA L H0) s.heap H locs → ∀ ls : Array Slot, lv_has ls 4 [(0, .ref (ad 0 0)), (1, .int (nI w)), (2, .int a), (3, .int (nI k))] → W p l e (rmk 6 8 32 132) s m ([.ref (ad 0 0), .int (nI w)] : List Value).toArray below meth co H locs k (k * 4) (MQ below (QiM (smI (fun k => ohS c k (nI w)) (c.R 10 1)) (fun H1 => PM E c th ly L ad H1) (cA L H0)) ([.ref (ad 0 0), .int (nI w)] : List Value).toArray s 8 32 (cA L H0)) (F0 m 4 ls []) := by
    intro fu
    induction fu with
    | zero => intro k a hk ha hfu; exact absurd hfu (Nat.not_lt_zero _)
    | succ fu ih4 =>
      intro k a hk ha hfu H locs hX hS ls hl
      obtain ⟨hP, hly, hLb, wfx, eq0, eq1, eq2⟩ := id hX
      refine lv_iload_n hx hb dX7_ofHands_4 rfl (lv_at hl 3 rfl) ?_
      refine lv_aload_n hx hb dX7_ofHands_5 rfl (lv_at hl 0 rfl) ?_
      refine pi_get hx hb hC hown hP fL_X7_20 0 0 cM_0 (v := .ref (ad 1 1)) rfl dX7_ofHands_6 ?_
      refine ro_V (As := []) (h0 := ad 1 1) (rest := [.int (nI k)]) (v := nI (c.R 10 1)) hx hb hml hown hC hS hAb (mJ_size l hP 1 (cM_1 (by decide))) kV_X7_33 ⟨rfl, rfl⟩ ⟨Nat.le_of_ble_eq_true rfl, Nat.le_of_ble_eq_true rfl⟩ (hP.recv hC (cM_1 (i := 1) (by decide)) rfl) rfl hl (Nat.le_of_ble_eq_true rfl) ⟨show _ ≤ (8 : Nat) by omega, show _ ≤ (32 : Nat) by omega⟩ dX7_ofHands_9 ?_
      have g_1 := wf.sh'
      have g_2 := wf.nh
      refine lv_icmpN_ge (tgt := 30) hx hb dX7_ofHands_12 (by decide) (by omega) (by omega) (fun c_12 => ?_) (fun c_12 => ?_)
      · skip
        refine lv_iload_n hx hb dX7_ofHands_30 rfl (lv_at hl 2 rfl) ?_
        refine W.widen (k := 8) (n := 32) (by omega) (by omega) ?_
        exact mu_iret (x := a) hx hb hr hlocks hS (hX) (by rw [ha, show k = c.R 10 1 by omega]) dX7_ofHands_31
      · skip
        refine lv_iload_n hx hb dX7_ofHands_15 rfl (lv_at hl 2 rfl) ?_
        refine lv_aload_n hx hb dX7_ofHands_16 rfl (lv_at hl 0 rfl) ?_
        refine lv_iload_n hx hb dX7_ofHands_17 rfl (lv_at hl 3 rfl) ?_
        refine lv_iload_n hx hb dX7_ofHands_18 rfl (lv_at hl 1 rfl) ?_
        refine mu_V (As := [.int (nI k), .int (nI w)]) (h0 := ad 0 0) (rest := [.int a]) (v := ohS c k (nI w)) hx hb hml hown hC hS hAb (mX7_ofHandNow l hX k w (by first | assumption | omega | decide | (simp only [decide_eq_false_iff_not, decide_eq_true_eq] at *; omega)) (by first | assumption | omega | decide | (simp only [decide_eq_false_iff_not, decide_eq_true_eq] at *; omega))) (fun q h => h.elim (hA q) (fun z => hN q (Nat.le_trans hS.1 z))) kV_X7_230 ⟨rfl, rfl⟩ ⟨Nat.le_of_ble_eq_true rfl, Nat.le_of_ble_eq_true rfl⟩ (hP.recv hC cM_0 rfl) rfl hl (Nat.le_of_ble_eq_true rfl) ⟨show k + 1 ≤ (8 : Nat) by omega, show k * 4 + 4 ≤ (32 : Nat) by omega⟩ dX7_ofHands_19 (fun H locs hB hS9 hz hk => ?_)
        have hS := hS9
        have hX : PM E c th ly L ad H := hB
        obtain ⟨hP, hly, hLb, wfx, eq0, eq1, eq2⟩ := id hX
        refine lv_iadd hx hb dX7_ofHands_22 ?_
        refine lv_istore_n (lv' := [(2, .int (a + (ohS c k (nI w)))), (0, .ref (ad 0 0)), (1, .int (nI w)), (3, .int (nI k))]) hx hb dX7_ofHands_23 rfl hl (by decide) rfl (fun ls hl => ?_)
        refine lv_iincN (v := 1) (lv' := [(3, .int (nI (k + 1))), (2, .int (a + (ohS c k (nI w)))), (0, .ref (ad 0 0)), (1, .int (nI w))]) hx hb dX7_ofHands_24 hl (k := 3) rfl (by decide) (by decide) rfl (fun ls hl => ?_)
        refine lv_goto (tgt := 4) hx hb dX7_ofHands_27 (by decide) ?_
        refine W.widen (k := (k + 1)) (n := (k + 1) * 4) (by omega) (by omega) ?_
        exact ih4 (k + 1) (a + (ohS c k (nI w))) (by first | rfl | assumption | omega | (simp [c_12]; done) | (simp_all [c_12]; done)) (by rw [ha]; rfl) (by omega) _ _ hX hS _ (lv_sub hl [2, 3, 1, 0] rfl)
  refine W.widen (k := 0) (n := 0 * 4) (by omega) (by omega) ?_
  exact lp4 (c.R 10 1 - 0 + 1) 0 (nI 0) (by first | rfl | assumption | omega | (simp []; done) | (simp_all []; done)) (rfl) (Nat.lt_succ_self _) _ _ hX hS _ (lv_sub hl [2, 3, 1, 0] rfl)
set_option maxHeartbeats 4000000 in
set_option maxRecDepth 100000 in
theorem mX7_manyNow (l : Launch) {E : En} {c : Cy} {th : Int32} {ly : Ly} {L : List Nat} {ad : Nat → Nat → Nat} {H0 : Heap} (hX : PM E c th ly L ad H0) (w : Nat) (hw : w ≤ 11) : MuI l yX7_manyNow cX7_manyNow 2 .int (rmk 7 8 32 155) [.ref (ad 0 0), .int (nI w)] E H0 (maS c (nI w)) (fun H1 => PM E c th ly L ad H1) (cA L H0) 8 32 := by
  obtain ⟨hP, hly, hLb, wf, eq0, eq1, eq2⟩ := id hX
  have wfx := wf
  refine ro_of (by decide) (Nat.le_of_ble_eq_true rfl) ?_
  intro p e s m below meth co ls hx hb hr hml hown hlocks hnm hC hU hl
  have hS : va_S (cA L H0) s.heap H0 [] := by rw [hU]; exact va_S.rf
  have hA : ∀ q, q ∈ L → cA L H0 q := fun q h => Or.inl h
  have hN : ∀ q, s.heap.size ≤ q → cA L H0 q := fun q h => Or.inr (by rw [← hU]; exact h)
  have hAb : ∀ q, cA L H0 q → bA E q := fun q h => h.elim (hLb q) (fun z => Nat.le_trans hC.2.2.2.1 (by rw [hU]; exact z))
  have hl : lv_has ls 2 [(0, .ref (ad 0 0)), (1, .int (nI w))] := hl
  refine lv_iload_n hx hb dX7_manyNow_0 rfl (lv_at hl 1 rfl) ?_
  by_cases c_1 : nI w = nI 0
  · skip
    refine lv_tableIn (tgt := 60) (off := 59) hx hb dX7_manyNow_1 (by rw [c_1]; decide) (by rw [c_1]; decide) (by rw [c_1]; decide) (by decide) ?_
    refine lv_aload_n hx hb dX7_manyNow_60 rfl (lv_at hl 0 rfl) ?_
    refine pi_get hx hb hC hown hP fL_X7_60 0 0 cM_0 (v := .int (nI (c.R 0 0))) rfl dX7_manyNow_61 ?_
    have g_1 : c.R 0 0 ≤ 400 := wfx.nt
    refine W.widen (k := 8) (n := 32) (by omega) (by omega) ?_
    exact mu_iret (x := nI (c.R 0 0)) hx hb hr hlocks hS (hX) (by first | (simp [maS, sl_t, c_1]; done) | (rw [c_1]; first | rfl | (show _ = nI (cntN (lseB c) (c.R 10 2)); rw [sl_f]) | (show _ = nI (cntN (lwsB c) (c.R 10 2)); rw [sl_t]) | (show _ = smI (fun k => smI (c.Wr k) 8) (c.R 10 1); rfl) | (show _ = nI (cntN (c.B 0) (c.R 10 1)); exact sm_B _ _) | (show _ = smI (c.I 11) (c.R 10 1); rfl) | (show _ = smI (c.I 14) (c.R 10 1); rfl))) dX7_manyNow_64
  have c_1n0 := c_1
  clear c_1
  by_cases c_1 : nI w = nI 1
  · skip
    refine lv_tableIn (tgt := 65) (off := 64) hx hb dX7_manyNow_1 (by rw [c_1]; decide) (by rw [c_1]; decide) (by rw [c_1]; decide) (by decide) ?_
    refine lv_aload_n hx hb dX7_manyNow_65 rfl (lv_at hl 0 rfl) ?_
    refine pi_get hx hb hC hown hP fL_X7_16 0 0 cM_0 (v := .ref (ad 1 0)) rfl dX7_manyNow_66 ?_
    refine ro_V (As := []) (h0 := ad 1 0) (rest := []) (v := nI (c.R 10 0)) hx hb hml hown hC hS hAb (mJ_size l hP 0 (cM_1 (by decide))) kV_X7_33 ⟨rfl, rfl⟩ ⟨Nat.le_of_ble_eq_true rfl, Nat.le_of_ble_eq_true rfl⟩ (hP.recv hC (cM_1 (i := 0) (by decide)) rfl) rfl hl (Nat.le_of_ble_eq_true rfl) ⟨show _ ≤ (8 : Nat) by omega, show _ ≤ (32 : Nat) by omega⟩ dX7_manyNow_69 ?_
    have g_2 := wf.sw
    have g_3 := wf.nw
    refine W.widen (k := 8) (n := 32) (by omega) (by omega) ?_
    exact mu_iret (x := nI (c.R 10 0)) hx hb hr hlocks hS (hX) (by first | (simp [maS, sl_t, c_1n0, c_1]; done) | (rw [c_1]; first | rfl | (show _ = nI (cntN (lseB c) (c.R 10 2)); rw [sl_f]) | (show _ = nI (cntN (lwsB c) (c.R 10 2)); rw [sl_t]) | (show _ = smI (fun k => smI (c.Wr k) 8) (c.R 10 1); rfl) | (show _ = nI (cntN (c.B 0) (c.R 10 1)); exact sm_B _ _) | (show _ = smI (c.I 11) (c.R 10 1); rfl) | (show _ = smI (c.I 14) (c.R 10 1); rfl))) dX7_manyNow_72
  have c_1n1 := c_1
  clear c_1
  by_cases c_1 : nI w = nI 2
  · skip
    refine lv_tableIn (tgt := 73) (off := 72) hx hb dX7_manyNow_1 (by rw [c_1]; decide) (by rw [c_1]; decide) (by rw [c_1]; decide) (by decide) ?_
    refine lv_aload_n hx hb dX7_manyNow_73 rfl (lv_at hl 0 rfl) ?_
    refine pi_get hx hb hC hown hP fL_X7_20 0 0 cM_0 (v := .ref (ad 1 1)) rfl dX7_manyNow_74 ?_
    refine ro_V (As := []) (h0 := ad 1 1) (rest := []) (v := nI (c.R 10 1)) hx hb hml hown hC hS hAb (mJ_size l hP 1 (cM_1 (by decide))) kV_X7_33 ⟨rfl, rfl⟩ ⟨Nat.le_of_ble_eq_true rfl, Nat.le_of_ble_eq_true rfl⟩ (hP.recv hC (cM_1 (i := 1) (by decide)) rfl) rfl hl (Nat.le_of_ble_eq_true rfl) ⟨show _ ≤ (8 : Nat) by omega, show _ ≤ (32 : Nat) by omega⟩ dX7_manyNow_77 ?_
    have g_4 := wf.sh'
    have g_5 := wf.nh
    refine W.widen (k := 8) (n := 32) (by omega) (by omega) ?_
    exact mu_iret (x := nI (c.R 10 1)) hx hb hr hlocks hS (hX) (by first | (simp [maS, sl_t, c_1n0, c_1n1, c_1]; done) | (rw [c_1]; first | rfl | (show _ = nI (cntN (lseB c) (c.R 10 2)); rw [sl_f]) | (show _ = nI (cntN (lwsB c) (c.R 10 2)); rw [sl_t]) | (show _ = smI (fun k => smI (c.Wr k) 8) (c.R 10 1); rfl) | (show _ = nI (cntN (c.B 0) (c.R 10 1)); exact sm_B _ _) | (show _ = smI (c.I 11) (c.R 10 1); rfl) | (show _ = smI (c.I 14) (c.R 10 1); rfl))) dX7_manyNow_80
  have c_1n2 := c_1
  clear c_1
  by_cases c_1 : nI w = nI 3
  · skip
    refine lv_tableIn (tgt := 81) (off := 80) hx hb dX7_manyNow_1 (by rw [c_1]; decide) (by rw [c_1]; decide) (by rw [c_1]; decide) (by decide) ?_
    refine lv_aload_n hx hb dX7_manyNow_81 rfl (lv_at hl 0 rfl) ?_
    refine pi_get hx hb hC hown hP fL_X7_23 0 0 cM_0 (v := .ref (ad 1 2)) rfl dX7_manyNow_82 ?_
    refine ro_V (As := []) (h0 := ad 1 2) (rest := []) (v := nI (c.R 10 2)) hx hb hml hown hC hS hAb (mJ_size l hP 2 (cM_1 (by decide))) kV_X7_33 ⟨rfl, rfl⟩ ⟨Nat.le_of_ble_eq_true rfl, Nat.le_of_ble_eq_true rfl⟩ (hP.recv hC (cM_1 (i := 2) (by decide)) rfl) rfl hl (Nat.le_of_ble_eq_true rfl) ⟨show _ ≤ (8 : Nat) by omega, show _ ≤ (32 : Nat) by omega⟩ dX7_manyNow_85 ?_
    have g_6 := wf.sl
    have g_7 := wf.nl
    refine W.widen (k := 8) (n := 32) (by omega) (by omega) ?_
    exact mu_iret (x := nI (c.R 10 2)) hx hb hr hlocks hS (hX) (by first | (simp [maS, sl_t, c_1n0, c_1n1, c_1n2, c_1]; done) | (rw [c_1]; first | rfl | (show _ = nI (cntN (lseB c) (c.R 10 2)); rw [sl_f]) | (show _ = nI (cntN (lwsB c) (c.R 10 2)); rw [sl_t]) | (show _ = smI (fun k => smI (c.Wr k) 8) (c.R 10 1); rfl) | (show _ = nI (cntN (c.B 0) (c.R 10 1)); exact sm_B _ _) | (show _ = smI (c.I 11) (c.R 10 1); rfl) | (show _ = smI (c.I 14) (c.R 10 1); rfl))) dX7_manyNow_88
  have c_1n3 := c_1
  clear c_1
  by_cases c_1 : nI w = nI 4
  · skip
    refine lv_tableIn (tgt := 89) (off := 88) hx hb dX7_manyNow_1 (by rw [c_1]; decide) (by rw [c_1]; decide) (by rw [c_1]; decide) (by decide) ?_
    refine lv_aload_n hx hb dX7_manyNow_89 rfl (lv_at hl 0 rfl) ?_
    refine lv_iconstN hx hb 0 dX7_manyNow_90 (by decide) ?_
    refine ro_V (As := [.int (nI 0)]) (h0 := ad 0 0) (rest := []) (v := nI (cntN (slM c false) (c.R 10 2))) hx hb hml hown hC hS hAb (mX7_seenLayers l hX false ) kV_X7_251 ⟨rfl, rfl⟩ ⟨Nat.le_of_ble_eq_true rfl, Nat.le_of_ble_eq_true rfl⟩ (hP.recv hC cM_0 rfl) rfl hl (Nat.le_of_ble_eq_true rfl) ⟨show _ ≤ (8 : Nat) by omega, show _ ≤ (32 : Nat) by omega⟩ dX7_manyNow_91 ?_
    refine W.widen (k := 8) (n := 32) (by omega) (by omega) ?_
    exact mu_iret (x := nI (cntN (slM c false) (c.R 10 2))) hx hb hr hlocks hS (hX) (by first | (simp [maS, sl_t, c_1n0, c_1n1, c_1n2, c_1n3, c_1]; done) | (rw [c_1]; first | rfl | (show _ = nI (cntN (lseB c) (c.R 10 2)); rw [sl_f]) | (show _ = nI (cntN (lwsB c) (c.R 10 2)); rw [sl_t]) | (show _ = smI (fun k => smI (c.Wr k) 8) (c.R 10 1); rfl) | (show _ = nI (cntN (c.B 0) (c.R 10 1)); exact sm_B _ _) | (show _ = smI (c.I 11) (c.R 10 1); rfl) | (show _ = smI (c.I 14) (c.R 10 1); rfl))) dX7_manyNow_94
  have c_1n4 := c_1
  clear c_1
  by_cases c_1 : nI w = nI 5
  · skip
    refine lv_tableIn (tgt := 95) (off := 94) hx hb dX7_manyNow_1 (by rw [c_1]; decide) (by rw [c_1]; decide) (by rw [c_1]; decide) (by decide) ?_
    refine lv_aload_n hx hb dX7_manyNow_95 rfl (lv_at hl 0 rfl) ?_
    refine pi_get hx hb hC hown hP fL_X7_9 0 0 cM_0 (v := .int (c.I 0 0)) rfl dX7_manyNow_96 ?_
    refine W.widen (k := 8) (n := 32) (by omega) (by omega) ?_
    exact mu_iret (x := c.I 0 0) hx hb hr hlocks hS (hX) (by first | (simp [maS, sl_t, c_1n0, c_1n1, c_1n2, c_1n3, c_1n4, c_1]; done) | (rw [c_1]; first | rfl | (show _ = nI (cntN (lseB c) (c.R 10 2)); rw [sl_f]) | (show _ = nI (cntN (lwsB c) (c.R 10 2)); rw [sl_t]) | (show _ = smI (fun k => smI (c.Wr k) 8) (c.R 10 1); rfl) | (show _ = nI (cntN (c.B 0) (c.R 10 1)); exact sm_B _ _) | (show _ = smI (c.I 11) (c.R 10 1); rfl) | (show _ = smI (c.I 14) (c.R 10 1); rfl))) dX7_manyNow_99
  have c_1n5 := c_1
  clear c_1
  by_cases c_1 : nI w = nI 6
  · skip
    refine lv_tableIn (tgt := 100) (off := 99) hx hb dX7_manyNow_1 (by rw [c_1]; decide) (by rw [c_1]; decide) (by rw [c_1]; decide) (by decide) ?_
    refine lv_aload_n hx hb dX7_manyNow_100 rfl (lv_at hl 0 rfl) ?_
    refine lv_bipushN hx hb 7 dX7_manyNow_101 (by decide) ?_
    refine mu_V (As := [.int (nI 7)]) (h0 := ad 0 0) (rest := []) (v := smI (fun k => ohS c k (nI 7)) (c.R 10 1)) hx hb hml hown hC hS hAb (mX7_ofHands l hX 7 (by first | assumption | omega | decide | (simp only [decide_eq_false_iff_not, decide_eq_true_eq] at *; omega))) (fun q h => h.elim (hA q) (fun z => hN q (Nat.le_trans hS.1 z))) kV_X7_255 ⟨rfl, rfl⟩ ⟨Nat.le_of_ble_eq_true rfl, Nat.le_of_ble_eq_true rfl⟩ (hP.recv hC cM_0 rfl) rfl hl (Nat.le_of_ble_eq_true rfl) ⟨show 0 + 8 ≤ (8 : Nat) by omega, show 0 + 32 ≤ (32 : Nat) by omega⟩ dX7_manyNow_103 (fun H locs hB hS9 hz hk => ?_)
    have hS := hS9
    have hX : PM E c th ly L ad H := hB
    obtain ⟨hP, hly, hLb, wfx, eq0, eq1, eq2⟩ := id hX
    exact mu_iret (x := smI (fun k => ohS c k (nI 7)) (c.R 10 1)) hx hb hr hlocks hS (hX) (by first | (simp [maS, sl_t, c_1n0, c_1n1, c_1n2, c_1n3, c_1n4, c_1n5, c_1]; done) | (rw [c_1]; first | rfl | (show _ = nI (cntN (lseB c) (c.R 10 2)); rw [sl_f]) | (show _ = nI (cntN (lwsB c) (c.R 10 2)); rw [sl_t]) | (show _ = smI (fun k => smI (c.Wr k) 8) (c.R 10 1); rfl) | (show _ = nI (cntN (c.B 0) (c.R 10 1)); exact sm_B _ _) | (show _ = smI (c.I 11) (c.R 10 1); rfl) | (show _ = smI (c.I 14) (c.R 10 1); rfl))) dX7_manyNow_106
  have c_1n6 := c_1
  clear c_1
  by_cases c_1 : nI w = nI 7
  · skip
    refine lv_tableIn (tgt := 107) (off := 106) hx hb dX7_manyNow_1 (by rw [c_1]; decide) (by rw [c_1]; decide) (by rw [c_1]; decide) (by decide) ?_
    refine lv_aload_n hx hb dX7_manyNow_107 rfl (lv_at hl 0 rfl) ?_
    refine lv_iconstN hx hb 3 dX7_manyNow_108 (by decide) ?_
    refine mu_V (As := [.int (nI 3)]) (h0 := ad 0 0) (rest := []) (v := smI (fun k => ohS c k (nI 3)) (c.R 10 1)) hx hb hml hown hC hS hAb (mX7_ofHands l hX 3 (by first | assumption | omega | decide | (simp only [decide_eq_false_iff_not, decide_eq_true_eq] at *; omega))) (fun q h => h.elim (hA q) (fun z => hN q (Nat.le_trans hS.1 z))) kV_X7_255 ⟨rfl, rfl⟩ ⟨Nat.le_of_ble_eq_true rfl, Nat.le_of_ble_eq_true rfl⟩ (hP.recv hC cM_0 rfl) rfl hl (Nat.le_of_ble_eq_true rfl) ⟨show 0 + 8 ≤ (8 : Nat) by omega, show 0 + 32 ≤ (32 : Nat) by omega⟩ dX7_manyNow_109 (fun H locs hB hS9 hz hk => ?_)
    have hS := hS9
    have hX : PM E c th ly L ad H := hB
    obtain ⟨hP, hly, hLb, wfx, eq0, eq1, eq2⟩ := id hX
    exact mu_iret (x := smI (fun k => ohS c k (nI 3)) (c.R 10 1)) hx hb hr hlocks hS (hX) (by first | (simp [maS, sl_t, c_1n0, c_1n1, c_1n2, c_1n3, c_1n4, c_1n5, c_1n6, c_1]; done) | (rw [c_1]; first | rfl | (show _ = nI (cntN (lseB c) (c.R 10 2)); rw [sl_f]) | (show _ = nI (cntN (lwsB c) (c.R 10 2)); rw [sl_t]) | (show _ = smI (fun k => smI (c.Wr k) 8) (c.R 10 1); rfl) | (show _ = nI (cntN (c.B 0) (c.R 10 1)); exact sm_B _ _) | (show _ = smI (c.I 11) (c.R 10 1); rfl) | (show _ = smI (c.I 14) (c.R 10 1); rfl))) dX7_manyNow_112
  have c_1n7 := c_1
  clear c_1
  by_cases c_1 : nI w = nI 8
  · skip
    refine lv_tableIn (tgt := 113) (off := 112) hx hb dX7_manyNow_1 (by rw [c_1]; decide) (by rw [c_1]; decide) (by rw [c_1]; decide) (by decide) ?_
    refine lv_aload_n hx hb dX7_manyNow_113 rfl (lv_at hl 0 rfl) ?_
    refine lv_iconstN hx hb 2 dX7_manyNow_114 (by decide) ?_
    refine mu_V (As := [.int (nI 2)]) (h0 := ad 0 0) (rest := []) (v := smI (fun k => ohS c k (nI 2)) (c.R 10 1)) hx hb hml hown hC hS hAb (mX7_ofHands l hX 2 (by first | assumption | omega | decide | (simp only [decide_eq_false_iff_not, decide_eq_true_eq] at *; omega))) (fun q h => h.elim (hA q) (fun z => hN q (Nat.le_trans hS.1 z))) kV_X7_255 ⟨rfl, rfl⟩ ⟨Nat.le_of_ble_eq_true rfl, Nat.le_of_ble_eq_true rfl⟩ (hP.recv hC cM_0 rfl) rfl hl (Nat.le_of_ble_eq_true rfl) ⟨show 0 + 8 ≤ (8 : Nat) by omega, show 0 + 32 ≤ (32 : Nat) by omega⟩ dX7_manyNow_115 (fun H locs hB hS9 hz hk => ?_)
    have hS := hS9
    have hX : PM E c th ly L ad H := hB
    obtain ⟨hP, hly, hLb, wfx, eq0, eq1, eq2⟩ := id hX
    exact mu_iret (x := smI (fun k => ohS c k (nI 2)) (c.R 10 1)) hx hb hr hlocks hS (hX) (by first | (simp [maS, sl_t, c_1n0, c_1n1, c_1n2, c_1n3, c_1n4, c_1n5, c_1n6, c_1n7, c_1]; done) | (rw [c_1]; first | rfl | (show _ = nI (cntN (lseB c) (c.R 10 2)); rw [sl_f]) | (show _ = nI (cntN (lwsB c) (c.R 10 2)); rw [sl_t]) | (show _ = smI (fun k => smI (c.Wr k) 8) (c.R 10 1); rfl) | (show _ = nI (cntN (c.B 0) (c.R 10 1)); exact sm_B _ _) | (show _ = smI (c.I 11) (c.R 10 1); rfl) | (show _ = smI (c.I 14) (c.R 10 1); rfl))) dX7_manyNow_118
  have c_1n8 := c_1
  clear c_1
  by_cases c_1 : nI w = nI 9
  · skip
    refine lv_tableIn (tgt := 119) (off := 118) hx hb dX7_manyNow_1 (by rw [c_1]; decide) (by rw [c_1]; decide) (by rw [c_1]; decide) (by decide) ?_
    refine lv_aload_n hx hb dX7_manyNow_119 rfl (lv_at hl 0 rfl) ?_
    refine lv_bipushN hx hb 9 dX7_manyNow_120 (by decide) ?_
    refine mu_V (As := [.int (nI 9)]) (h0 := ad 0 0) (rest := []) (v := smI (fun k => ohS c k (nI 9)) (c.R 10 1)) hx hb hml hown hC hS hAb (mX7_ofHands l hX 9 (by first | assumption | omega | decide | (simp only [decide_eq_false_iff_not, decide_eq_true_eq] at *; omega))) (fun q h => h.elim (hA q) (fun z => hN q (Nat.le_trans hS.1 z))) kV_X7_255 ⟨rfl, rfl⟩ ⟨Nat.le_of_ble_eq_true rfl, Nat.le_of_ble_eq_true rfl⟩ (hP.recv hC cM_0 rfl) rfl hl (Nat.le_of_ble_eq_true rfl) ⟨show 0 + 8 ≤ (8 : Nat) by omega, show 0 + 32 ≤ (32 : Nat) by omega⟩ dX7_manyNow_122 (fun H locs hB hS9 hz hk => ?_)
    have hS := hS9
    have hX : PM E c th ly L ad H := hB
    obtain ⟨hP, hly, hLb, wfx, eq0, eq1, eq2⟩ := id hX
    exact mu_iret (x := smI (fun k => ohS c k (nI 9)) (c.R 10 1)) hx hb hr hlocks hS (hX) (by first | (simp [maS, sl_t, c_1n0, c_1n1, c_1n2, c_1n3, c_1n4, c_1n5, c_1n6, c_1n7, c_1n8, c_1]; done) | (rw [c_1]; first | rfl | (show _ = nI (cntN (lseB c) (c.R 10 2)); rw [sl_f]) | (show _ = nI (cntN (lwsB c) (c.R 10 2)); rw [sl_t]) | (show _ = smI (fun k => smI (c.Wr k) 8) (c.R 10 1); rfl) | (show _ = nI (cntN (c.B 0) (c.R 10 1)); exact sm_B _ _) | (show _ = smI (c.I 11) (c.R 10 1); rfl) | (show _ = smI (c.I 14) (c.R 10 1); rfl))) dX7_manyNow_125
  have c_1n9 := c_1
  clear c_1
  by_cases c_1 : nI w = nI 10
  · skip
    refine lv_tableIn (tgt := 126) (off := 125) hx hb dX7_manyNow_1 (by rw [c_1]; decide) (by rw [c_1]; decide) (by rw [c_1]; decide) (by decide) ?_
    refine lv_aload_n hx hb dX7_manyNow_126 rfl (lv_at hl 0 rfl) ?_
    refine pi_get hx hb hC hown hP fL_X7_209 0 0 cM_0 (v := .int (c.I 1 0)) rfl dX7_manyNow_127 ?_
    refine W.widen (k := 8) (n := 32) (by omega) (by omega) ?_
    exact mu_iret (x := c.I 1 0) hx hb hr hlocks hS (hX) (by first | (simp [maS, sl_t, c_1n0, c_1n1, c_1n2, c_1n3, c_1n4, c_1n5, c_1n6, c_1n7, c_1n8, c_1n9, c_1]; done) | (rw [c_1]; first | rfl | (show _ = nI (cntN (lseB c) (c.R 10 2)); rw [sl_f]) | (show _ = nI (cntN (lwsB c) (c.R 10 2)); rw [sl_t]) | (show _ = smI (fun k => smI (c.Wr k) 8) (c.R 10 1); rfl) | (show _ = nI (cntN (c.B 0) (c.R 10 1)); exact sm_B _ _) | (show _ = smI (c.I 11) (c.R 10 1); rfl) | (show _ = smI (c.I 14) (c.R 10 1); rfl))) dX7_manyNow_130
  have c_1n10 := c_1
  clear c_1
  refine lv_tableOut (tgt := 131) hx hb dX7_manyNow_1 (sw_out 11 (fun k hk => by match k, hk with | 0, _ => exact c_1n0 | 1, _ => exact c_1n1 | 2, _ => exact c_1n2 | 3, _ => exact c_1n3 | 4, _ => exact c_1n4 | 5, _ => exact c_1n5 | 6, _ => exact c_1n6 | 7, _ => exact c_1n7 | 8, _ => exact c_1n8 | 9, _ => exact c_1n9 | 10, _ => exact c_1n10)) (by decide) ?_
  refine lv_aload_n hx hb dX7_manyNow_131 rfl (lv_at hl 0 rfl) ?_
  refine lv_iconstN hx hb 1 dX7_manyNow_132 (by decide) ?_
  refine ro_V (As := [.int (nI 1)]) (h0 := ad 0 0) (rest := []) (v := nI (cntN (slM c true) (c.R 10 2))) hx hb hml hown hC hS hAb (mX7_seenLayers l hX true ) kV_X7_251 ⟨rfl, rfl⟩ ⟨Nat.le_of_ble_eq_true rfl, Nat.le_of_ble_eq_true rfl⟩ (hP.recv hC cM_0 rfl) rfl hl (Nat.le_of_ble_eq_true rfl) ⟨show _ ≤ (8 : Nat) by omega, show _ ≤ (32 : Nat) by omega⟩ dX7_manyNow_133 ?_
  refine W.widen (k := 8) (n := 32) (by omega) (by omega) ?_
  exact mu_iret (x := nI (cntN (slM c true) (c.R 10 2))) hx hb hr hlocks hS (hX) (by first | (simp [maS, sl_t, c_1n0, c_1n1, c_1n2, c_1n3, c_1n4, c_1n5, c_1n6, c_1n7, c_1n8, c_1n9, c_1n10]; done) | (rw [c_1]; first | rfl | (show _ = nI (cntN (lseB c) (c.R 10 2)); rw [sl_f]) | (show _ = nI (cntN (lwsB c) (c.R 10 2)); rw [sl_t]) | (show _ = smI (fun k => smI (c.Wr k) 8) (c.R 10 1); rfl) | (show _ = nI (cntN (c.B 0) (c.R 10 1)); exact sm_B _ _) | (show _ = smI (c.I 11) (c.R 10 1); rfl) | (show _ = smI (c.I 14) (c.R 10 1); rfl))) dX7_manyNow_136
set_option maxHeartbeats 4000000 in
set_option maxRecDepth 100000 in
theorem mX7_digest (l : Launch) {E : En} {c : Cy} {th : Int32} {ly : Ly} {L : List Nat} {ad : Nat → Nat → Nat} {H0 : Heap} (hX : PM E c th ly L ad H0)   : MuL l yX7_digest cX7_digest 8 (rmk 8 1032 4128 176) [.ref (ad 0 0)] E H0 (dgS c) (fun H1 => PM E c (nI 0) ly L ad H1) (cA L H0) 1032 4128 := by
  obtain ⟨hP, hly, hLb, wf, eq0, eq1, eq2⟩ := id hX
  have wfx := wf
  refine ro_of (by decide) (Nat.le_of_ble_eq_true rfl) ?_
  intro p e s m below meth co ls hx hb hr hml hown hlocks hnm hC hU hl
  have hS : va_S (cA L H0) s.heap H0 [] := by rw [hU]; exact va_S.rf
  have hA : ∀ q, q ∈ L → cA L H0 q := fun q h => Or.inl h
  have hN : ∀ q, s.heap.size ≤ q → cA L H0 q := fun q h => Or.inr (by rw [← hU]; exact h)
  have hAb : ∀ q, cA L H0 q → bA E q := fun q h => h.elim (hLb q) (fun z => Nat.le_trans hC.2.2.2.1 (by rw [hU]; exact z))
  have hl : lv_has ls 8 [(0, .ref (ad 0 0))] := hl
  have gw := wf.nw
  have gsw := wf.sw
  have gs := wf.sh'
  have gh := wf.nh
  have gsl := wf.sl
  have gl := wf.nl
  refine lv_aload_n hx hb dX7_digest_0 rfl (lv_at hl 0 rfl) ?_
  refine lv_iconstN hx hb 0 dX7_digest_1 (by decide) ?_
  refine pwM_thrown hx hb hC hown hX hS hA fP_X7_26 (v := nI 0) dX7_digest_2 (fun H locs hX hS => ?_)
  obtain ⟨hP, hly, hLb, wfx, eq0, eq1, eq2⟩ := id hX
  refine lv_ldc2 (v := 58232) hx hb hown (hC.2.1.at (List.mem_append_right _ (List.mem_of_getElem? (i := 1299) (by decide +kernel))) (by decide +kernel) _) dX7_digest_5 ?_
  refine lv_lstore_n (lv' := [(1, .long 58232), (0, .ref (ad 0 0))]) hx hb dX7_digest_8 rfl hl (by decide) rfl (fun ls hl => ?_)
  refine lv_iconstN hx hb 0 dX7_digest_9 (by decide) ?_
  refine lv_istore_n (lv' := [(3, .int (nI 0)), (1, .long 58232), (0, .ref (ad 0 0))]) hx hb dX7_digest_10 rfl hl (by decide) rfl (fun ls hl => ?_)
  have lp11 : ∀ fu : Nat, ∀ (k : Nat) (d2 : Int64), k ≤ 12 → d2 = mixL (fun k => maS c (nI k)) k 58232 → 12 - k < fu → ∀ (H : Heap) (locs : List Loc), PM E c (nI 0) ly L ad H → va_S (cA L H0) s.heap H locs → ∀ ls : Array Slot, lv_has ls 8 [(0, .ref (ad 0 0)), (1, .long d2), (3, .int (nI k))] → W p l e (rmk 8 1032 4128 176) s m ([.ref (ad 0 0)] : List Value).toArray below meth co H locs (k * 8) (k * 32) (MQ below (QlM (dgS c) (fun H1 => PM E c (nI 0) ly L ad H1) (cA L H0)) ([.ref (ad 0 0)] : List Value).toArray s 1032 4128 (cA L H0)) (F0 m 11 ls []) := by
    intro fu
    induction fu with
    | zero => intro k d2 hk ha hfu; exact absurd hfu (Nat.not_lt_zero _)
    | succ fu ih11 =>
      intro k d2 hk ha hfu H locs hX hS ls hl
      obtain ⟨hP, hly, hLb, wfx, eq0, eq1, eq2⟩ := id hX
      refine lv_iload_n hx hb dX7_digest_11 rfl (lv_at hl 2 rfl) ?_
      refine lv_bipushN hx hb 12 dX7_digest_12 (by decide) ?_
      refine lv_icmpN_ge (tgt := 34) hx hb dX7_digest_14 (by decide) (by omega) (by omega) (fun c_14 => ?_) (fun c_14 => ?_)
      · skip
        refine lv_iconstN hx hb 0 dX7_digest_34 (by decide) ?_
        refine lv_istore_n (lv' := [(3, .int (nI 0)), (0, .ref (ad 0 0)), (1, .long d2)]) hx hb dX7_digest_35 rfl hl (by decide) rfl (fun ls hl => ?_)
        have lp36 : ∀ fu : Nat, ∀ (k : Nat) (d2 : Int64), k ≤ c.R 10 0 → d2 = runL (mwS c) k (mixL (fun k => maS c (nI k)) 12 58232) → c.R 10 0 - k < fu → ∀ (H : Heap) (locs : List Loc), PM E c (nI 0) ly L ad H → va_S (cA L H0) s.heap H locs → ∀ ls : Array Slot, lv_has ls 8 [(0, .ref (ad 0 0)), (1, .long d2), (3, .int (nI k))] → W p l e (rmk 8 1032 4128 176) s m ([.ref (ad 0 0)] : List Value).toArray below meth co H locs 96 384 (MQ below (QlM (dgS c) (fun H1 => PM E c (nI 0) ly L ad H1) (cA L H0)) ([.ref (ad 0 0)] : List Value).toArray s 1032 4128 (cA L H0)) (F0 m 36 ls []) := by
          intro fu
          induction fu with
          | zero => intro k d2 hk ha hfu; exact absurd hfu (Nat.not_lt_zero _)
          | succ fu ih36 =>
            intro k d2 hk ha hfu H locs hX hS ls hl
            obtain ⟨hP, hly, hLb, wfx, eq0, eq1, eq2⟩ := id hX
            refine lv_iload_n hx hb dX7_digest_36 rfl (lv_at hl 2 rfl) ?_
            refine lv_aload_n hx hb dX7_digest_37 rfl (lv_at hl 0 rfl) ?_
            refine pi_get hx hb hC hown hP fL_X7_16 0 0 cM_0 (v := .ref (ad 1 0)) rfl dX7_digest_38 ?_
            refine ro_V (As := []) (h0 := ad 1 0) (rest := [.int (nI k)]) (v := nI (c.R 10 0)) hx hb hml hown hC hS hAb (mJ_size l hP 0 (cM_1 (by decide))) kV_X7_33 ⟨rfl, rfl⟩ ⟨Nat.le_of_ble_eq_true rfl, Nat.le_of_ble_eq_true rfl⟩ (hP.recv hC (cM_1 (i := 0) (by decide)) rfl) rfl hl (Nat.le_of_ble_eq_true rfl) ⟨show _ ≤ (1032 : Nat) by omega, show _ ≤ (4128 : Nat) by omega⟩ dX7_digest_41 ?_
            have g_1 := wf.sw
            have g_2 := wf.nw
            refine lv_icmpN_ge (tgt := 134) hx hb dX7_digest_44 (by decide) (by omega) (by omega) (fun c_44 => ?_) (fun c_44 => ?_)
            · skip
              refine lv_iconstN hx hb 0 dX7_digest_134 (by decide) ?_
              refine lv_istore_n (lv' := [(3, .int (nI 0)), (0, .ref (ad 0 0)), (1, .long d2)]) hx hb dX7_digest_135 rfl hl (by decide) rfl (fun ls hl => ?_)
              have lp136 : ∀ fu : Nat, ∀ (k : Nat) (d2 : Int64), k ≤ c.R 10 1 → d2 = runL (mhS c) k (dg1 c) → c.R 10 1 - k < fu → ∀ (H : Heap) (locs : List Loc), PM E c (nI 0) ly L ad H → va_S (cA L H0) s.heap H locs → ∀ ls : Array Slot, lv_has ls 8 [(0, .ref (ad 0 0)), (1, .long d2), (3, .int (nI k))] → W p l e (rmk 8 1032 4128 176) s m ([.ref (ad 0 0)] : List Value).toArray below meth co H locs (96 + k * 12) (384 + k * 48) (MQ below (QlM (dgS c) (fun H1 => PM E c (nI 0) ly L ad H1) (cA L H0)) ([.ref (ad 0 0)] : List Value).toArray s 1032 4128 (cA L H0)) (F0 m 136 ls []) := by
                intro fu
                induction fu with
                | zero => intro k d2 hk ha hfu; exact absurd hfu (Nat.not_lt_zero _)
                | succ fu ih136 =>
                  intro k d2 hk ha hfu H locs hX hS ls hl
                  obtain ⟨hP, hly, hLb, wfx, eq0, eq1, eq2⟩ := id hX
                  refine lv_iload_n hx hb dX7_digest_136 rfl (lv_at hl 2 rfl) ?_
                  refine lv_aload_n hx hb dX7_digest_137 rfl (lv_at hl 0 rfl) ?_
                  refine pi_get hx hb hC hown hP fL_X7_20 0 0 cM_0 (v := .ref (ad 1 1)) rfl dX7_digest_138 ?_
                  refine ro_V (As := []) (h0 := ad 1 1) (rest := [.int (nI k)]) (v := nI (c.R 10 1)) hx hb hml hown hC hS hAb (mJ_size l hP 1 (cM_1 (by decide))) kV_X7_33 ⟨rfl, rfl⟩ ⟨Nat.le_of_ble_eq_true rfl, Nat.le_of_ble_eq_true rfl⟩ (hP.recv hC (cM_1 (i := 1) (by decide)) rfl) rfl hl (Nat.le_of_ble_eq_true rfl) ⟨show _ ≤ (1032 : Nat) by omega, show _ ≤ (4128 : Nat) by omega⟩ dX7_digest_141 ?_
                  have g_3 := wf.sh'
                  have g_4 := wf.nh
                  refine lv_icmpN_ge (tgt := 239) hx hb dX7_digest_144 (by decide) (by omega) (by omega) (fun c_144 => ?_) (fun c_144 => ?_)
                  · skip
                    refine lv_iconstN hx hb 0 dX7_digest_239 (by decide) ?_
                    refine lv_istore_n (lv' := [(3, .int (nI 0)), (0, .ref (ad 0 0)), (1, .long d2)]) hx hb dX7_digest_240 rfl hl (by decide) rfl (fun ls hl => ?_)
                    have lp241 : ∀ fu : Nat, ∀ (k : Nat) (d2 : Int64), k ≤ c.R 10 2 → d2 = runL (mlS c) k (dg2 c) → c.R 10 2 - k < fu → ∀ (H : Heap) (locs : List Loc), PM E c (nI 0) ly L ad H → va_S (cA L H0) s.heap H locs → ∀ ls : Array Slot, lv_has ls 8 [(0, .ref (ad 0 0)), (1, .long d2), (3, .int (nI k))] → W p l e (rmk 8 1032 4128 176) s m ([.ref (ad 0 0)] : List Value).toArray below meth co H locs (192 + k * 14) (768 + k * 56) (MQ below (QlM (dgS c) (fun H1 => PM E c (nI 0) ly L ad H1) (cA L H0)) ([.ref (ad 0 0)] : List Value).toArray s 1032 4128 (cA L H0)) (F0 m 241 ls []) := by
                      intro fu
                      induction fu with
                      | zero => intro k d2 hk ha hfu; exact absurd hfu (Nat.not_lt_zero _)
                      | succ fu ih241 =>
                        intro k d2 hk ha hfu H locs hX hS ls hl
                        obtain ⟨hP, hly, hLb, wfx, eq0, eq1, eq2⟩ := id hX
                        refine lv_iload_n hx hb dX7_digest_241 rfl (lv_at hl 2 rfl) ?_
                        refine lv_aload_n hx hb dX7_digest_242 rfl (lv_at hl 0 rfl) ?_
                        refine pi_get hx hb hC hown hP fL_X7_23 0 0 cM_0 (v := .ref (ad 1 2)) rfl dX7_digest_243 ?_
                        refine ro_V (As := []) (h0 := ad 1 2) (rest := [.int (nI k)]) (v := nI (c.R 10 2)) hx hb hml hown hC hS hAb (mJ_size l hP 2 (cM_1 (by decide))) kV_X7_33 ⟨rfl, rfl⟩ ⟨Nat.le_of_ble_eq_true rfl, Nat.le_of_ble_eq_true rfl⟩ (hP.recv hC (cM_1 (i := 2) (by decide)) rfl) rfl hl (Nat.le_of_ble_eq_true rfl) ⟨show _ ≤ (1032 : Nat) by omega, show _ ≤ (4128 : Nat) by omega⟩ dX7_digest_246 ?_
                        have g_5 := wf.sl
                        have g_6 := wf.nl
                        refine lv_icmpN_ge (tgt := 287) hx hb dX7_digest_249 (by decide) (by omega) (by omega) (fun c_249 => ?_) (fun c_249 => ?_)
                        · skip
                          refine lv_lload_n hx hb dX7_digest_287 rfl (lv_at hl 1 rfl) ?_
                          refine lv_aload_n hx hb dX7_digest_288 rfl (lv_at hl 0 rfl) ?_
                          refine ro_V (As := []) (h0 := ad 0 0) (rest := [.long d2]) (v := nbS c) hx hb hml hown hC hS hAb (mX7_nextBuffNow l hX  ) kV_X7_271 ⟨rfl, rfl⟩ ⟨Nat.le_of_ble_eq_true rfl, Nat.le_of_ble_eq_true rfl⟩ (hP.recv hC cM_0 rfl) rfl hl (Nat.le_of_ble_eq_true rfl) ⟨show _ ≤ (1032 : Nat) by omega, show _ ≤ (4128 : Nat) by omega⟩ dX7_digest_289 ?_
                          refine lv_i2l (v := (nbS c).toInt64) hx hb dX7_digest_292 rfl ?_
                          refine ro_SL (As := [.long d2, .long ((nbS c).toInt64)]) (rest := []) (v := d2 * 31 + ((nbS c).toInt64)) hx hb hml hown hC hS hAb (mX7_add l d2 ((nbS c).toInt64) ) kS_X7_285 ⟨rfl, rfl⟩ ⟨Nat.le_of_ble_eq_true rfl, Nat.le_of_ble_eq_true rfl⟩ rfl hl (Nat.le_of_ble_eq_true rfl) ⟨show _ ≤ (1032 : Nat) by omega, show _ ≤ (4128 : Nat) by omega⟩ dX7_digest_293 ?_
                          refine lv_lstore_n (lv' := [(1, .long (d2 * 31 + ((nbS c).toInt64))), (0, .ref (ad 0 0)), (3, .int (nI k))]) hx hb dX7_digest_296 rfl hl (by decide) rfl (fun ls hl => ?_)
                          refine lv_aload_n hx hb dX7_digest_297 rfl (lv_at hl 1 rfl) ?_
                          refine pi_get hx hb hC hown hP fL_X7_20 0 0 cM_0 (v := .ref (ad 1 1)) rfl dX7_digest_298 ?_
                          refine ro_V (As := []) (h0 := ad 1 1) (rest := []) (v := bI (decide (c.R 10 1 = 0))) hx hb hml hown hC hS hAb (mJ_isEmpty l hP 1 (cM_1 (by decide)) (by have := wf.sw; have := wf.sh'; have := wf.sl; have := wf.nw; have := wf.nh; have := wf.nl; omega)) kV_X7_261 ⟨rfl, rfl⟩ ⟨Nat.le_of_ble_eq_true rfl, Nat.le_of_ble_eq_true rfl⟩ (hP.recv hC (cM_1 (i := 1) (by decide)) rfl) rfl hl (Nat.le_of_ble_eq_true rfl) ⟨show _ ≤ (1032 : Nat) by omega, show _ ≤ (4128 : Nat) by omega⟩ dX7_digest_301 ?_
                          refine lv_bif_ne (tgt := 317) hx hb dX7_digest_304 (by decide) (fun c_304 => ?_) (fun c_304 => ?_)
                          · skip
                            refine lv_lload_n hx hb dX7_digest_317 rfl (lv_at hl 0 rfl) ?_
                            refine lv_goto (tgt := 334) hx hb dX7_digest_318 (by decide) ?_
                            refine W.widen (k := 1032) (n := 4128) (by omega) (by omega) ?_
                            exact mu_lret (x := d2 * 31 + ((nbS c).toInt64)) hx hb hr hlocks hS (hX) (by rw [ha, show k = c.R 10 2 by omega]; simp only [dgS]; first | (rw [if_pos (by simp_all)]; rfl) | (rw [if_neg (by simp_all)]; rfl)) dX7_digest_334
                          · skip
                            refine lv_aload_n hx hb dX7_digest_307 rfl (lv_at hl 1 rfl) ?_
                            refine pi_get hx hb hC hown hP fL_X7_16 0 0 cM_0 (v := .ref (ad 1 0)) rfl dX7_digest_308 ?_
                            refine ro_V (As := []) (h0 := ad 1 0) (rest := []) (v := bI (decide (c.R 10 0 = 0))) hx hb hml hown hC hS hAb (mJ_isEmpty l hP 0 (cM_1 (by decide)) (by have := wf.sw; have := wf.sh'; have := wf.sl; have := wf.nw; have := wf.nh; have := wf.nl; omega)) kV_X7_261 ⟨rfl, rfl⟩ ⟨Nat.le_of_ble_eq_true rfl, Nat.le_of_ble_eq_true rfl⟩ (hP.recv hC (cM_1 (i := 0) (by decide)) rfl) rfl hl (Nat.le_of_ble_eq_true rfl) ⟨show _ ≤ (1032 : Nat) by omega, show _ ≤ (4128 : Nat) by omega⟩ dX7_digest_311 ?_
                            refine lv_bif_eq (tgt := 321) hx hb dX7_digest_314 (by decide) (fun c_314 => ?_) (fun c_314 => ?_)
                            · skip
                              refine lv_lload_n hx hb dX7_digest_321 rfl (lv_at hl 0 rfl) ?_
                              refine lv_aload_n hx hb dX7_digest_322 rfl (lv_at hl 1 rfl) ?_
                              refine lv_iconstN hx hb 0 dX7_digest_323 (by decide) ?_
                              refine lv_iconstN hx hb 0 dX7_digest_324 (by decide) ?_
                              refine lv_iconstN hx hb 2 dX7_digest_325 (by decide) ?_
                              refine lv_iconstN hx hb 1 dX7_digest_326 (by decide) ?_
                              refine ro_V (As := [.int (nI 0), .int (nI 0), .int (nI 2), .int (nI 1)]) (h0 := ad 0 0) (rest := [.long (d2 * 31 + ((nbS c).toInt64))]) (v := bfS c 0 0 2 1) hx hb hml hown hC hS hAb (mX7_bestFromNow l hX 0 0 2 1 (by first | assumption | omega | (simp only [decide_eq_false_iff_not, decide_eq_true_eq] at *; omega)) (by first | assumption | omega | (simp only [decide_eq_false_iff_not, decide_eq_true_eq] at *; omega)) (by first | assumption | omega | (simp only [decide_eq_false_iff_not, decide_eq_true_eq] at *; omega)) (by first | assumption | omega | (simp only [decide_eq_false_iff_not, decide_eq_true_eq] at *; omega)) (by first | assumption | omega | (simp only [decide_eq_false_iff_not, decide_eq_true_eq] at *; omega))) kV_X7_267 ⟨rfl, rfl⟩ ⟨Nat.le_of_ble_eq_true rfl, Nat.le_of_ble_eq_true rfl⟩ (hP.recv hC cM_0 rfl) rfl hl (Nat.le_of_ble_eq_true rfl) ⟨show _ ≤ (1032 : Nat) by omega, show _ ≤ (4128 : Nat) by omega⟩ dX7_digest_327 ?_
                              refine lv_i2l (v := (bfS c 0 0 2 1).toInt64) hx hb dX7_digest_330 rfl ?_
                              refine ro_SL (As := [.long (d2 * 31 + ((nbS c).toInt64)), .long ((bfS c 0 0 2 1).toInt64)]) (rest := []) (v := (d2 * 31 + ((nbS c).toInt64)) * 31 + ((bfS c 0 0 2 1).toInt64)) hx hb hml hown hC hS hAb (mX7_add l (d2 * 31 + ((nbS c).toInt64)) ((bfS c 0 0 2 1).toInt64) ) kS_X7_285 ⟨rfl, rfl⟩ ⟨Nat.le_of_ble_eq_true rfl, Nat.le_of_ble_eq_true rfl⟩ rfl hl (Nat.le_of_ble_eq_true rfl) ⟨show _ ≤ (1032 : Nat) by omega, show _ ≤ (4128 : Nat) by omega⟩ dX7_digest_331 ?_
                              refine W.widen (k := 1032) (n := 4128) (by omega) (by omega) ?_
                              exact mu_lret (x := (d2 * 31 + ((nbS c).toInt64)) * 31 + ((bfS c 0 0 2 1).toInt64)) hx hb hr hlocks hS (hX) (by rw [ha, show k = c.R 10 2 by omega]; simp only [dgS]; first | (rw [if_pos (by simp_all)]; rfl) | (rw [if_neg (by simp_all)]; rfl)) dX7_digest_334
                            · skip
                              refine lv_lload_n hx hb dX7_digest_317 rfl (lv_at hl 0 rfl) ?_
                              refine lv_goto (tgt := 334) hx hb dX7_digest_318 (by decide) ?_
                              refine W.widen (k := 1032) (n := 4128) (by omega) (by omega) ?_
                              exact mu_lret (x := d2 * 31 + ((nbS c).toInt64)) hx hb hr hlocks hS (hX) (by rw [ha, show k = c.R 10 2 by omega]; simp only [dgS]; first | (rw [if_pos (by simp_all)]; rfl) | (rw [if_neg (by simp_all)]; rfl)) dX7_digest_334
                        · skip
                          refine lv_iconstN hx hb 0 dX7_digest_252 (by decide) ?_
                          refine lv_istore (lv' := [(4, .int (nI 0)), (0, .ref (ad 0 0)), (1, .long d2), (3, .int (nI k))]) hx hb dX7_digest_253 hl (by decide) rfl (fun ls hl => ?_)
                          have lp255 : ∀ fu : Nat, ∀ (z : Nat) (d3 : Int64), z ≤ 14 → d3 = mixL (fun q => olS c k (nI q)) z d2 → 14 - z < fu → ∀ (H : Heap) (locs : List Loc), PM E c (nI 0) ly L ad H → va_S (cA L H0) s.heap H locs → ∀ ls : Array Slot, lv_has ls 8 [(0, .ref (ad 0 0)), (1, .long d3), (3, .int (nI k)), (4, .int (nI z))] → W p l e (rmk 8 1032 4128 176) s m ([.ref (ad 0 0)] : List Value).toArray below meth co H locs (192 + k * 14 + z) (768 + k * 56 + z * 4) (MQ below (QlM (dgS c) (fun H1 => PM E c (nI 0) ly L ad H1) (cA L H0)) ([.ref (ad 0 0)] : List Value).toArray s 1032 4128 (cA L H0)) (F0 m 255 ls []) := by
                            intro fu
                            induction fu with
                            | zero => intro z d3 hz ha2 hfu; exact absurd hfu (Nat.not_lt_zero _)
                            | succ fu ih255 =>
                              intro z d3 hz ha2 hfu H locs hX hS ls hl
                              obtain ⟨hP, hly, hLb, wfx, eq0, eq1, eq2⟩ := id hX
                              refine lv_iload hx hb dX7_digest_255 (lv_at hl 3 rfl) ?_
                              refine lv_bipushN hx hb 14 dX7_digest_257 (by decide) ?_
                              refine lv_icmpN_ge (tgt := 281) hx hb dX7_digest_259 (by decide) (by omega) (by omega) (fun c_259 => ?_) (fun c_259 => ?_)
                              · skip
                                refine lv_iincN (v := 1) (lv' := [(3, .int (nI (k + 1))), (0, .ref (ad 0 0)), (1, .long d3), (4, .int (nI z))]) hx hb dX7_digest_281 hl (k := 2) rfl (by decide) (by decide) rfl (fun ls hl => ?_)
                                refine lv_goto (tgt := 241) hx hb dX7_digest_284 (by decide) ?_
                                refine W.widen (k := 192 + (k + 1) * 14) (n := 768 + (k + 1) * 56) (by omega) (by omega) ?_
                                exact ih241 (k + 1) d3 (by first | rfl | assumption | omega | (simp [c_14, c_44, c_144, c_249, c_259]; done) | (simp_all [c_14, c_44, c_144, c_249, c_259]; done)) (by rw [ha2, ha, show z = 14 by omega]; rfl) (by omega) _ _ hX hS _ (lv_sub hl [1, 2, 0] rfl)
                              · skip
                                refine lv_lload_n hx hb dX7_digest_262 rfl (lv_at hl 1 rfl) ?_
                                refine lv_aload_n hx hb dX7_digest_263 rfl (lv_at hl 0 rfl) ?_
                                refine lv_iload_n hx hb dX7_digest_264 rfl (lv_at hl 2 rfl) ?_
                                refine lv_iload hx hb dX7_digest_265 (lv_at hl 3 rfl) ?_
                                refine mu_V (As := [.int (nI k), .int (nI z)]) (h0 := ad 0 0) (rest := [.long d3]) (v := olS c k (nI z)) hx hb hml hown hC hS hAb (mX7_ofLayerNow l hX k z (by first | assumption | omega | decide | (simp only [decide_eq_false_iff_not, decide_eq_true_eq] at *; omega)) (by first | assumption | omega | decide | (simp only [decide_eq_false_iff_not, decide_eq_true_eq] at *; omega))) (fun q h => h.elim (hA q) (fun z => hN q (Nat.le_trans hS.1 z))) kV_X7_248 ⟨rfl, rfl⟩ ⟨Nat.le_of_ble_eq_true rfl, Nat.le_of_ble_eq_true rfl⟩ (hP.recv hC cM_0 rfl) rfl hl (Nat.le_of_ble_eq_true rfl) ⟨show 192 + k * 14 + z + 1 ≤ (1032 : Nat) by omega, show 768 + k * 56 + z * 4 + 4 ≤ (4128 : Nat) by omega⟩ dX7_digest_267 (fun H locs hB hS9 hz hk => ?_)
                                have hS := hS9
                                have hX : PM E c (nI 0) ly L ad H := hB
                                obtain ⟨hP, hly, hLb, wfx, eq0, eq1, eq2⟩ := id hX
                                refine lv_i2l (v := (olS c k (nI z)).toInt64) hx hb dX7_digest_270 rfl ?_
                                refine ro_SL (As := [.long d3, .long ((olS c k (nI z)).toInt64)]) (rest := []) (v := d3 * 31 + ((olS c k (nI z)).toInt64)) hx hb hml hown hC hS hAb (mX7_add l d3 ((olS c k (nI z)).toInt64) ) kS_X7_285 ⟨rfl, rfl⟩ ⟨Nat.le_of_ble_eq_true rfl, Nat.le_of_ble_eq_true rfl⟩ rfl hl (Nat.le_of_ble_eq_true rfl) ⟨show _ ≤ (1032 : Nat) by omega, show _ ≤ (4128 : Nat) by omega⟩ dX7_digest_271 ?_
                                refine lv_lstore_n (lv' := [(1, .long (d3 * 31 + ((olS c k (nI z)).toInt64))), (0, .ref (ad 0 0)), (3, .int (nI k)), (4, .int (nI z))]) hx hb dX7_digest_274 rfl hl (by decide) rfl (fun ls hl => ?_)
                                refine lv_iincN (v := 1) (lv' := [(4, .int (nI (z + 1))), (1, .long (d3 * 31 + ((olS c k (nI z)).toInt64))), (0, .ref (ad 0 0)), (3, .int (nI k))]) hx hb dX7_digest_275 hl (k := 3) rfl (by decide) (by decide) rfl (fun ls hl => ?_)
                                refine lv_goto (tgt := 255) hx hb dX7_digest_278 (by decide) ?_
                                refine W.widen (k := 192 + k * 14 + (z + 1)) (n := 768 + k * 56 + (z + 1) * 4) (by omega) (by omega) ?_
                                exact ih255 (z + 1) (d3 * 31 + ((olS c k (nI z)).toInt64)) (by first | rfl | assumption | omega | (simp [c_14, c_44, c_144, c_249, c_259]; done) | (simp_all [c_14, c_44, c_144, c_249, c_259]; done)) (by rw [ha2]; rfl) (by omega) _ _ hX hS _ (lv_sub hl [2, 1, 3, 0] rfl)
                          refine W.widen (k := 192 + k * 14 + 0) (n := 768 + k * 56 + 0 * 4) (by omega) (by omega) ?_
                          exact lp255 (14 - 0 + 1) 0 d2 (by first | rfl | assumption | omega | (simp [c_14, c_44, c_144, c_249]; done) | (simp_all [c_14, c_44, c_144, c_249]; done)) (rfl) (Nat.lt_succ_self _) _ _ hX hS _ (lv_sub hl [1, 2, 3, 0] rfl)
                    refine W.widen (k := 192 + 0 * 14) (n := 768 + 0 * 56) (by omega) (by omega) ?_
                    exact lp241 (c.R 10 2 - 0 + 1) 0 d2 (by first | rfl | assumption | omega | (simp [c_14, c_44, c_144]; done) | (simp_all [c_14, c_44, c_144]; done)) (by rw [ha, show k = c.R 10 1 by omega]; rfl) (Nat.lt_succ_self _) _ _ hX hS _ (lv_sub hl [1, 2, 0] rfl)
                  · skip
                    refine lv_iconstN hx hb 0 dX7_digest_147 (by decide) ?_
                    refine lv_istore (lv' := [(4, .int (nI 0)), (0, .ref (ad 0 0)), (1, .long d2), (3, .int (nI k))]) hx hb dX7_digest_148 hl (by decide) rfl (fun ls hl => ?_)
                    have lp150 : ∀ fu : Nat, ∀ (z : Nat) (d3 : Int64), z ≤ 11 → d3 = mixL (fun q => ohS c k (nI q)) z d2 → 11 - z < fu → ∀ (H : Heap) (locs : List Loc), PM E c (nI 0) ly L ad H → va_S (cA L H0) s.heap H locs → ∀ ls : Array Slot, lv_has ls 8 [(0, .ref (ad 0 0)), (1, .long d3), (3, .int (nI k)), (4, .int (nI z))] → W p l e (rmk 8 1032 4128 176) s m ([.ref (ad 0 0)] : List Value).toArray below meth co H locs (96 + k * 12 + z) (384 + k * 48 + z * 4) (MQ below (QlM (dgS c) (fun H1 => PM E c (nI 0) ly L ad H1) (cA L H0)) ([.ref (ad 0 0)] : List Value).toArray s 1032 4128 (cA L H0)) (F0 m 150 ls []) := by
                      intro fu
                      induction fu with
                      | zero => intro z d3 hz ha2 hfu; exact absurd hfu (Nat.not_lt_zero _)
                      | succ fu ih150 =>
                        intro z d3 hz ha2 hfu H locs hX hS ls hl
                        obtain ⟨hP, hly, hLb, wfx, eq0, eq1, eq2⟩ := id hX
                        refine lv_iload hx hb dX7_digest_150 (lv_at hl 3 rfl) ?_
                        refine lv_bipushN hx hb 11 dX7_digest_152 (by decide) ?_
                        refine lv_icmpN_ge (tgt := 176) hx hb dX7_digest_154 (by decide) (by omega) (by omega) (fun c_154 => ?_) (fun c_154 => ?_)
                        · skip
                          refine lv_iconstN hx hb 0 dX7_digest_176 (by decide) ?_
                          refine lv_istore (lv' := [(4, .int (nI 0)), (0, .ref (ad 0 0)), (1, .long d3), (3, .int (nI k))]) hx hb dX7_digest_177 hl (by decide) rfl (fun ls hl => ?_)
                          have lp179 : ∀ fu : Nat, ∀ (z : Nat) (d3 : Int64), z ≤ c.R 10 1 → d3 = mixL (fun q => c.Wr k q) z (mixL (fun q => ohS c k (nI q)) 11 d2) → c.R 10 1 - z < fu → ∀ (H : Heap) (locs : List Loc), PM E c (nI 0) ly L ad H → va_S (cA L H0) s.heap H locs → ∀ ls : Array Slot, lv_has ls 8 [(0, .ref (ad 0 0)), (1, .long d3), (3, .int (nI k)), (4, .int (nI z))] → W p l e (rmk 8 1032 4128 176) s m ([.ref (ad 0 0)] : List Value).toArray below meth co H locs (96 + k * 12 + 11) (384 + k * 48 + 44) (MQ below (QlM (dgS c) (fun H1 => PM E c (nI 0) ly L ad H1) (cA L H0)) ([.ref (ad 0 0)] : List Value).toArray s 1032 4128 (cA L H0)) (F0 m 179 ls []) := by
                            intro fu
                            induction fu with
                            | zero => intro z d3 hz ha3 hfu; exact absurd hfu (Nat.not_lt_zero _)
                            | succ fu ih179 =>
                              intro z d3 hz ha3 hfu H locs hX hS ls hl
                              obtain ⟨hP, hly, hLb, wfx, eq0, eq1, eq2⟩ := id hX
                              refine lv_iload hx hb dX7_digest_179 (lv_at hl 3 rfl) ?_
                              refine lv_aload_n hx hb dX7_digest_181 rfl (lv_at hl 0 rfl) ?_
                              refine pi_get hx hb hC hown hP fL_X7_20 0 0 cM_0 (v := .ref (ad 1 1)) rfl dX7_digest_182 ?_
                              refine ro_V (As := []) (h0 := ad 1 1) (rest := [.int (nI z)]) (v := nI (c.R 10 1)) hx hb hml hown hC hS hAb (mJ_size l hP 1 (cM_1 (by decide))) kV_X7_33 ⟨rfl, rfl⟩ ⟨Nat.le_of_ble_eq_true rfl, Nat.le_of_ble_eq_true rfl⟩ (hP.recv hC (cM_1 (i := 1) (by decide)) rfl) rfl hl (Nat.le_of_ble_eq_true rfl) ⟨show _ ≤ (1032 : Nat) by omega, show _ ≤ (4128 : Nat) by omega⟩ dX7_digest_185 ?_
                              refine lv_icmpN_ge (tgt := 220) hx hb dX7_digest_188 (by decide) (by omega) (by omega) (fun c_188 => ?_) (fun c_188 => ?_)
                              · skip
                                refine lv_lload_n hx hb dX7_digest_220 rfl (lv_at hl 1 rfl) ?_
                                refine lv_aload_n hx hb dX7_digest_221 rfl (lv_at hl 0 rfl) ?_
                                refine lv_iload_n hx hb dX7_digest_222 rfl (lv_at hl 2 rfl) ?_
                                refine lv_bipushN hx hb 7 dX7_digest_223 (by decide) ?_
                                refine mu_V (As := [.int (nI k), .int (nI 7)]) (h0 := ad 0 0) (rest := [.long d3]) (v := wbfS c k 7) hx hb hml hown hC hS hAb (mX7_wouldFameNow l hX k 7 (by first | assumption | omega | decide | (simp only [decide_eq_false_iff_not, decide_eq_true_eq] at *; omega)) (by first | assumption | omega | decide | (simp only [decide_eq_false_iff_not, decide_eq_true_eq] at *; omega))) (fun q h => h.elim (hA q) (fun z => hN q (Nat.le_trans hS.1 z))) kV_X7_278 ⟨rfl, rfl⟩ ⟨Nat.le_of_ble_eq_true rfl, Nat.le_of_ble_eq_true rfl⟩ (hP.recv hC cM_0 rfl) rfl hl (Nat.le_of_ble_eq_true rfl) ⟨show 96 + k * 12 + 11 + 1 ≤ (1032 : Nat) by omega, show 384 + k * 48 + 44 + 4 ≤ (4128 : Nat) by omega⟩ dX7_digest_225 (fun H locs hB hS9 hz hk => ?_)
                                have hS := hS9
                                have hX : PM E c (nI 0) ly L ad H := hB
                                obtain ⟨hP, hly, hLb, wfx, eq0, eq1, eq2⟩ := id hX
                                refine lv_i2l (v := (wbfS c k 7).toInt64) hx hb dX7_digest_228 rfl ?_
                                refine ro_SL (As := [.long d3, .long ((wbfS c k 7).toInt64)]) (rest := []) (v := d3 * 31 + ((wbfS c k 7).toInt64)) hx hb hml hown hC hS hAb (mX7_add l d3 ((wbfS c k 7).toInt64) ) kS_X7_285 ⟨rfl, rfl⟩ ⟨Nat.le_of_ble_eq_true rfl, Nat.le_of_ble_eq_true rfl⟩ rfl hl (Nat.le_of_ble_eq_true rfl) ⟨show _ ≤ (1032 : Nat) by omega, show _ ≤ (4128 : Nat) by omega⟩ dX7_digest_229 ?_
                                refine lv_lstore_n (lv' := [(1, .long (d3 * 31 + ((wbfS c k 7).toInt64))), (0, .ref (ad 0 0)), (3, .int (nI k)), (4, .int (nI z))]) hx hb dX7_digest_232 rfl hl (by decide) rfl (fun ls hl => ?_)
                                refine lv_iincN (v := 1) (lv' := [(3, .int (nI (k + 1))), (1, .long (d3 * 31 + ((wbfS c k 7).toInt64))), (0, .ref (ad 0 0)), (4, .int (nI z))]) hx hb dX7_digest_233 hl (k := 2) rfl (by decide) (by decide) rfl (fun ls hl => ?_)
                                refine lv_goto (tgt := 136) hx hb dX7_digest_236 (by decide) ?_
                                refine W.widen (k := 96 + (k + 1) * 12) (n := 384 + (k + 1) * 48) (by omega) (by omega) ?_
                                exact ih136 (k + 1) (d3 * 31 + ((wbfS c k 7).toInt64)) (by first | rfl | assumption | omega | (simp [c_14, c_44, c_144, c_154, c_188]; done) | (simp_all [c_14, c_44, c_144, c_154, c_188]; done)) (by rw [ha3, ha, show z = c.R 10 1 by omega]; rfl) (by omega) _ _ hX hS _ (lv_sub hl [2, 1, 0] rfl)
                              · skip
                                refine lv_lload_n hx hb dX7_digest_191 rfl (lv_at hl 1 rfl) ?_
                                refine lv_aload_n hx hb dX7_digest_192 rfl (lv_at hl 0 rfl) ?_
                                refine pi_get hx hb hC hown hP fL_X7_20 0 0 cM_0 (v := .ref (ad 1 1)) rfl dX7_digest_193 ?_
                                refine lv_iload_n hx hb dX7_digest_196 rfl (lv_at hl 2 rfl) ?_
                                refine ro_VR (As := [.int (nI k)]) (h0 := ad 1 1) (rest := [.long d3]) (v := some (ad 5 k)) hx hb hml hown hC hS hAb (mJ_get l hP 1 (cM_1 (by decide)) (fun h9 => cM_2 (by decide) h9) (hly 1 (by decide)) k (by first | assumption | omega)) kV_X7_63 ⟨rfl, rfl⟩ ⟨Nat.le_of_ble_eq_true rfl, Nat.le_of_ble_eq_true rfl⟩ (hP.recv hC (cM_1 (i := 1) (by decide)) rfl) rfl hl (Nat.le_of_ble_eq_true rfl) ⟨show _ ≤ (1032 : Nat) by omega, show _ ≤ (4128 : Nat) by omega⟩ dX7_digest_197 ?_
                                have hg_7 : k < c.R 11 1 := by have := wf.sh'; omega
                                refine pi_cast (nm := "") hx hb hC hown hP 5 k (cM_5 hg_7) rfl wCl_X7_53 dX7_digest_200 ?_
                                refine pi_get hx hb hC hown hP fL_X7_130 5 k (cM_5 hg_7) (v := .ref (ad 6 k)) rfl dX7_digest_203 ?_
                                refine lv_iload hx hb dX7_digest_206 (lv_at hl 3 rfl) ?_
                                refine pi_iald hx hb hC hP 6 k (cM_6 hg_7) (j := z) (by omega) (by omega) dX7_digest_208 ?_
                                refine lv_i2l (v := (c.Wr k z).toInt64) hx hb dX7_digest_209 rfl ?_
                                refine ro_SL (As := [.long d3, .long ((c.Wr k z).toInt64)]) (rest := []) (v := d3 * 31 + ((c.Wr k z).toInt64)) hx hb hml hown hC hS hAb (mX7_add l d3 ((c.Wr k z).toInt64) ) kS_X7_285 ⟨rfl, rfl⟩ ⟨Nat.le_of_ble_eq_true rfl, Nat.le_of_ble_eq_true rfl⟩ rfl hl (Nat.le_of_ble_eq_true rfl) ⟨show _ ≤ (1032 : Nat) by omega, show _ ≤ (4128 : Nat) by omega⟩ dX7_digest_210 ?_
                                refine lv_lstore_n (lv' := [(1, .long (d3 * 31 + ((c.Wr k z).toInt64))), (0, .ref (ad 0 0)), (3, .int (nI k)), (4, .int (nI z))]) hx hb dX7_digest_213 rfl hl (by decide) rfl (fun ls hl => ?_)
                                refine lv_iincN (v := 1) (lv' := [(4, .int (nI (z + 1))), (1, .long (d3 * 31 + ((c.Wr k z).toInt64))), (0, .ref (ad 0 0)), (3, .int (nI k))]) hx hb dX7_digest_214 hl (k := 3) rfl (by decide) (by decide) rfl (fun ls hl => ?_)
                                refine lv_goto (tgt := 179) hx hb dX7_digest_217 (by decide) ?_
                                exact ih179 (z + 1) (d3 * 31 + ((c.Wr k z).toInt64)) (by first | rfl | assumption | omega | (simp [c_14, c_44, c_144, c_154, c_188]; done) | (simp_all [c_14, c_44, c_144, c_154, c_188]; done)) (by rw [ha3]; rfl) (by omega) _ _ hX hS _ (lv_sub hl [2, 1, 3, 0] rfl)
                          refine W.widen (k := 96 + k * 12 + 11) (n := 384 + k * 48 + 44) (by omega) (by omega) ?_
                          exact lp179 (c.R 10 1 - 0 + 1) 0 d3 (by first | rfl | assumption | omega | (simp [c_14, c_44, c_144, c_154]; done) | (simp_all [c_14, c_44, c_144, c_154]; done)) (by rw [ha2, show z = 11 by omega]; rfl) (Nat.lt_succ_self _) _ _ hX hS _ (lv_sub hl [1, 2, 3, 0] rfl)
                        · skip
                          refine lv_lload_n hx hb dX7_digest_157 rfl (lv_at hl 1 rfl) ?_
                          refine lv_aload_n hx hb dX7_digest_158 rfl (lv_at hl 0 rfl) ?_
                          refine lv_iload_n hx hb dX7_digest_159 rfl (lv_at hl 2 rfl) ?_
                          refine lv_iload hx hb dX7_digest_160 (lv_at hl 3 rfl) ?_
                          refine mu_V (As := [.int (nI k), .int (nI z)]) (h0 := ad 0 0) (rest := [.long d3]) (v := ohS c k (nI z)) hx hb hml hown hC hS hAb (mX7_ofHandNow l hX k z (by first | assumption | omega | decide | (simp only [decide_eq_false_iff_not, decide_eq_true_eq] at *; omega)) (by first | assumption | omega | decide | (simp only [decide_eq_false_iff_not, decide_eq_true_eq] at *; omega))) (fun q h => h.elim (hA q) (fun z => hN q (Nat.le_trans hS.1 z))) kV_X7_230 ⟨rfl, rfl⟩ ⟨Nat.le_of_ble_eq_true rfl, Nat.le_of_ble_eq_true rfl⟩ (hP.recv hC cM_0 rfl) rfl hl (Nat.le_of_ble_eq_true rfl) ⟨show 96 + k * 12 + z + 1 ≤ (1032 : Nat) by omega, show 384 + k * 48 + z * 4 + 4 ≤ (4128 : Nat) by omega⟩ dX7_digest_162 (fun H locs hB hS9 hz hk => ?_)
                          have hS := hS9
                          have hX : PM E c (nI 0) ly L ad H := hB
                          obtain ⟨hP, hly, hLb, wfx, eq0, eq1, eq2⟩ := id hX
                          refine lv_i2l (v := (ohS c k (nI z)).toInt64) hx hb dX7_digest_165 rfl ?_
                          refine ro_SL (As := [.long d3, .long ((ohS c k (nI z)).toInt64)]) (rest := []) (v := d3 * 31 + ((ohS c k (nI z)).toInt64)) hx hb hml hown hC hS hAb (mX7_add l d3 ((ohS c k (nI z)).toInt64) ) kS_X7_285 ⟨rfl, rfl⟩ ⟨Nat.le_of_ble_eq_true rfl, Nat.le_of_ble_eq_true rfl⟩ rfl hl (Nat.le_of_ble_eq_true rfl) ⟨show _ ≤ (1032 : Nat) by omega, show _ ≤ (4128 : Nat) by omega⟩ dX7_digest_166 ?_
                          refine lv_lstore_n (lv' := [(1, .long (d3 * 31 + ((ohS c k (nI z)).toInt64))), (0, .ref (ad 0 0)), (3, .int (nI k)), (4, .int (nI z))]) hx hb dX7_digest_169 rfl hl (by decide) rfl (fun ls hl => ?_)
                          refine lv_iincN (v := 1) (lv' := [(4, .int (nI (z + 1))), (1, .long (d3 * 31 + ((ohS c k (nI z)).toInt64))), (0, .ref (ad 0 0)), (3, .int (nI k))]) hx hb dX7_digest_170 hl (k := 3) rfl (by decide) (by decide) rfl (fun ls hl => ?_)
                          refine lv_goto (tgt := 150) hx hb dX7_digest_173 (by decide) ?_
                          refine W.widen (k := 96 + k * 12 + (z + 1)) (n := 384 + k * 48 + (z + 1) * 4) (by omega) (by omega) ?_
                          exact ih150 (z + 1) (d3 * 31 + ((ohS c k (nI z)).toInt64)) (by first | rfl | assumption | omega | (simp [c_14, c_44, c_144, c_154]; done) | (simp_all [c_14, c_44, c_144, c_154]; done)) (by rw [ha2]; rfl) (by omega) _ _ hX hS _ (lv_sub hl [2, 1, 3, 0] rfl)
                    refine W.widen (k := 96 + k * 12 + 0) (n := 384 + k * 48 + 0 * 4) (by omega) (by omega) ?_
                    exact lp150 (11 - 0 + 1) 0 d2 (by first | rfl | assumption | omega | (simp [c_14, c_44, c_144]; done) | (simp_all [c_14, c_44, c_144]; done)) (rfl) (Nat.lt_succ_self _) _ _ hX hS _ (lv_sub hl [1, 2, 3, 0] rfl)
              refine W.widen (k := 96 + 0 * 12) (n := 384 + 0 * 48) (by omega) (by omega) ?_
              exact lp136 (c.R 10 1 - 0 + 1) 0 d2 (by first | rfl | assumption | omega | (simp [c_14, c_44]; done) | (simp_all [c_14, c_44]; done)) (by rw [ha, show k = c.R 10 0 by omega]; rfl) (Nat.lt_succ_self _) _ _ hX hS _ (lv_sub hl [1, 2, 0] rfl)
            · skip
              refine lv_iconstN hx hb 0 dX7_digest_47 (by decide) ?_
              refine lv_istore (lv' := [(4, .int (nI 0)), (0, .ref (ad 0 0)), (1, .long d2), (3, .int (nI k))]) hx hb dX7_digest_48 hl (by decide) rfl (fun ls hl => ?_)
              have lp50 : ∀ fu : Nat, ∀ (z : Nat) (d3 : Int64), z ≤ 7 → d3 = mixL (fun q => owS c k (nI q)) z d2 → 7 - z < fu → ∀ (H : Heap) (locs : List Loc), PM E c (nI 0) ly L ad H → va_S (cA L H0) s.heap H locs → ∀ ls : Array Slot, lv_has ls 8 [(0, .ref (ad 0 0)), (1, .long d3), (3, .int (nI k)), (4, .int (nI z))] → W p l e (rmk 8 1032 4128 176) s m ([.ref (ad 0 0)] : List Value).toArray below meth co H locs 96 384 (MQ below (QlM (dgS c) (fun H1 => PM E c (nI 0) ly L ad H1) (cA L H0)) ([.ref (ad 0 0)] : List Value).toArray s 1032 4128 (cA L H0)) (F0 m 50 ls []) := by
                intro fu
                induction fu with
                | zero => intro z d3 hz ha2 hfu; exact absurd hfu (Nat.not_lt_zero _)
                | succ fu ih50 =>
                  intro z d3 hz ha2 hfu H locs hX hS ls hl
                  obtain ⟨hP, hly, hLb, wfx, eq0, eq1, eq2⟩ := id hX
                  refine lv_iload hx hb dX7_digest_50 (lv_at hl 3 rfl) ?_
                  refine lv_bipushN hx hb 7 dX7_digest_52 (by decide) ?_
                  refine lv_icmpN_ge (tgt := 76) hx hb dX7_digest_54 (by decide) (by omega) (by omega) (fun c_54 => ?_) (fun c_54 => ?_)
                  · skip
                    refine lv_aload_n hx hb dX7_digest_76 rfl (lv_at hl 0 rfl) ?_
                    refine pi_get hx hb hC hown hP fL_X7_16 0 0 cM_0 (v := .ref (ad 1 0)) rfl dX7_digest_77 ?_
                    refine lv_iload_n hx hb dX7_digest_80 rfl (lv_at hl 2 rfl) ?_
                    refine ro_VR (As := [.int (nI k)]) (h0 := ad 1 0) (rest := []) (v := some (ad 3 k)) hx hb hml hown hC hS hAb (mJ_get l hP 0 (cM_1 (by decide)) (fun h9 => cM_2 (by decide) h9) (hly 0 (by decide)) k (by first | assumption | omega)) kV_X7_63 ⟨rfl, rfl⟩ ⟨Nat.le_of_ble_eq_true rfl, Nat.le_of_ble_eq_true rfl⟩ (hP.recv hC (cM_1 (i := 0) (by decide)) rfl) rfl hl (Nat.le_of_ble_eq_true rfl) ⟨show _ ≤ (1032 : Nat) by omega, show _ ≤ (4128 : Nat) by omega⟩ dX7_digest_81 ?_
                    have hg_8 : k < c.R 11 0 := by have := wf.sw; omega
                    refine pi_cast (nm := "") hx hb hC hown hP 3 k (cM_3 hg_8) rfl wCl_X7_44 dX7_digest_84 ?_
                    refine pi_get hx hb hC hown hP fL_X7_97 3 k (cM_3 hg_8) (v := .ref (ad 4 k)) rfl dX7_digest_87 ?_
                    have g_9 : 4 ≤ c.R 1 k ∧ c.R 1 k ≤ 16 := wfx.wd hg_8
                    refine lv_astore (lv' := [(4, .ref (ad 4 k)), (0, .ref (ad 0 0)), (1, .long d3), (3, .int (nI k))]) hx hb dX7_digest_90 hl (by decide) rfl (fun ls hl => ?_)
                    refine lv_aload hx hb dX7_digest_92 (lv_at hl 0 rfl) ?_
                    refine pi_alen hx hb hC hP 4 k 0 rfl (cM_4 hg_8) dX7_digest_94 ?_
                    have g_10 : 4 ≤ c.R 1 k ∧ c.R 1 k ≤ 16 := wfx.wd hg_8
                    refine lv_istore (lv' := [(5, .int (nI (c.R 1 k))), (4, .ref (ad 4 k)), (0, .ref (ad 0 0)), (1, .long d3), (3, .int (nI k))]) hx hb dX7_digest_95 hl (by decide) rfl (fun ls hl => ?_)
                    refine lv_iconstN hx hb 0 dX7_digest_97 (by decide) ?_
                    refine lv_istore (lv' := [(6, .int (nI 0)), (5, .int (nI (c.R 1 k))), (4, .ref (ad 4 k)), (0, .ref (ad 0 0)), (1, .long d3), (3, .int (nI k))]) hx hb dX7_digest_98 hl (by decide) rfl (fun ls hl => ?_)
                    have lp100 : ∀ fu : Nat, ∀ (z : Nat) (d3 : Int64), z ≤ c.R 1 k → d3 = mixL (fun q => shI c k q) z (mixL (fun q => owS c k (nI q)) 7 d2) → c.R 1 k - z < fu → ∀ (H : Heap) (locs : List Loc), PM E c (nI 0) ly L ad H → va_S (cA L H0) s.heap H locs → ∀ ls : Array Slot, lv_has ls 8 [(0, .ref (ad 0 0)), (1, .long d3), (3, .int (nI k)), (4, .ref (ad 4 k)), (5, .int (nI (c.R 1 k))), (6, .int (nI z))] → W p l e (rmk 8 1032 4128 176) s m ([.ref (ad 0 0)] : List Value).toArray below meth co H locs 96 384 (MQ below (QlM (dgS c) (fun H1 => PM E c (nI 0) ly L ad H1) (cA L H0)) ([.ref (ad 0 0)] : List Value).toArray s 1032 4128 (cA L H0)) (F0 m 100 ls []) := by
                      intro fu
                      induction fu with
                      | zero => intro z d3 hz ha3 hfu; exact absurd hfu (Nat.not_lt_zero _)
                      | succ fu ih100 =>
                        intro z d3 hz ha3 hfu H locs hX hS ls hl
                        obtain ⟨hP, hly, hLb, wfx, eq0, eq1, eq2⟩ := id hX
                        refine lv_iload hx hb dX7_digest_100 (lv_at hl 5 rfl) ?_
                        refine lv_iload hx hb dX7_digest_102 (lv_at hl 4 rfl) ?_
                        refine lv_icmpN_ge (tgt := 128) hx hb dX7_digest_104 (by decide) (by omega) (by omega) (fun c_104 => ?_) (fun c_104 => ?_)
                        · skip
                          refine lv_iincN (v := 1) (lv' := [(3, .int (nI (k + 1))), (0, .ref (ad 0 0)), (1, .long d3), (4, .ref (ad 4 k)), (5, .int (nI (c.R 1 k))), (6, .int (nI z))]) hx hb dX7_digest_128 hl (k := 2) rfl (by decide) (by decide) rfl (fun ls hl => ?_)
                          refine lv_goto (tgt := 36) hx hb dX7_digest_131 (by decide) ?_
                          exact ih36 (k + 1) d3 (by first | rfl | assumption | omega | (simp [c_14, c_44, c_54, c_104]; done) | (simp_all [c_14, c_44, c_54, c_104]; done)) (by rw [ha3, ha, show z = c.R 1 k by omega]; rfl) (by omega) _ _ hX hS _ (lv_sub hl [1, 2, 0] rfl)
                        · skip
                          refine lv_aload hx hb dX7_digest_107 (lv_at hl 3 rfl) ?_
                          refine lv_iload hx hb dX7_digest_109 (lv_at hl 5 rfl) ?_
                          refine pi_iald hx hb hC hP 4 k (cM_4 hg_8) (j := z) (by first | assumption | omega) (by omega) dX7_digest_111 ?_
                          refine lv_istore (lv' := [(7, .int (shI c k z)), (0, .ref (ad 0 0)), (1, .long d3), (3, .int (nI k)), (4, .ref (ad 4 k)), (5, .int (nI (c.R 1 k))), (6, .int (nI z))]) hx hb dX7_digest_112 hl (by decide) rfl (fun ls hl => ?_)
                          refine lv_lload_n hx hb dX7_digest_114 rfl (lv_at hl 2 rfl) ?_
                          refine lv_iload hx hb dX7_digest_115 (lv_at hl 0 rfl) ?_
                          refine lv_i2l (v := (shI c k z).toInt64) hx hb dX7_digest_117 rfl ?_
                          refine ro_SL (As := [.long d3, .long ((shI c k z).toInt64)]) (rest := []) (v := d3 * 31 + ((shI c k z).toInt64)) hx hb hml hown hC hS hAb (mX7_add l d3 ((shI c k z).toInt64) ) kS_X7_285 ⟨rfl, rfl⟩ ⟨Nat.le_of_ble_eq_true rfl, Nat.le_of_ble_eq_true rfl⟩ rfl hl (Nat.le_of_ble_eq_true rfl) ⟨show _ ≤ (1032 : Nat) by omega, show _ ≤ (4128 : Nat) by omega⟩ dX7_digest_118 ?_
                          refine lv_lstore_n (lv' := [(1, .long (d3 * 31 + ((shI c k z).toInt64))), (7, .int (shI c k z)), (0, .ref (ad 0 0)), (3, .int (nI k)), (4, .ref (ad 4 k)), (5, .int (nI (c.R 1 k))), (6, .int (nI z))]) hx hb dX7_digest_121 rfl hl (by decide) rfl (fun ls hl => ?_)
                          refine lv_iincN (v := 1) (lv' := [(6, .int (nI (z + 1))), (1, .long (d3 * 31 + ((shI c k z).toInt64))), (7, .int (shI c k z)), (0, .ref (ad 0 0)), (3, .int (nI k)), (4, .ref (ad 4 k)), (5, .int (nI (c.R 1 k)))]) hx hb dX7_digest_122 hl (k := 6) rfl (by decide) (by decide) rfl (fun ls hl => ?_)
                          refine lv_goto (tgt := 100) hx hb dX7_digest_125 (by decide) ?_
                          exact ih100 (z + 1) (d3 * 31 + ((shI c k z).toInt64)) (by first | rfl | assumption | omega | (simp [c_14, c_44, c_54, c_104]; done) | (simp_all [c_14, c_44, c_54, c_104]; done)) (by rw [ha3]; rfl) (by omega) _ _ hX hS _ (lv_sub hl [3, 1, 4, 5, 6, 0] rfl)
                    exact lp100 (c.R 1 k - 0 + 1) 0 d3 (by first | rfl | assumption | omega | (simp [c_14, c_44, c_54]; done) | (simp_all [c_14, c_44, c_54]; done)) (by rw [ha2, show z = 7 by omega]; rfl) (Nat.lt_succ_self _) _ _ hX hS _ (lv_sub hl [3, 4, 5, 2, 1, 0] rfl)
                  · skip
                    refine lv_lload_n hx hb dX7_digest_57 rfl (lv_at hl 1 rfl) ?_
                    refine lv_aload_n hx hb dX7_digest_58 rfl (lv_at hl 0 rfl) ?_
                    refine lv_iload_n hx hb dX7_digest_59 rfl (lv_at hl 2 rfl) ?_
                    refine lv_iload hx hb dX7_digest_60 (lv_at hl 3 rfl) ?_
                    refine ro_V (As := [.int (nI k), .int (nI z)]) (h0 := ad 0 0) (rest := [.long d3]) (v := owS c k (nI z)) hx hb hml hown hC hS hAb (mX7_ofWallNow l hX k (nI z) (by first | assumption | omega | (simp only [decide_eq_false_iff_not, decide_eq_true_eq] at *; omega))) kV_X7_221 ⟨rfl, rfl⟩ ⟨Nat.le_of_ble_eq_true rfl, Nat.le_of_ble_eq_true rfl⟩ (hP.recv hC cM_0 rfl) rfl hl (Nat.le_of_ble_eq_true rfl) ⟨show _ ≤ (1032 : Nat) by omega, show _ ≤ (4128 : Nat) by omega⟩ dX7_digest_62 ?_
                    refine lv_i2l (v := (owS c k (nI z)).toInt64) hx hb dX7_digest_65 rfl ?_
                    refine ro_SL (As := [.long d3, .long ((owS c k (nI z)).toInt64)]) (rest := []) (v := d3 * 31 + ((owS c k (nI z)).toInt64)) hx hb hml hown hC hS hAb (mX7_add l d3 ((owS c k (nI z)).toInt64) ) kS_X7_285 ⟨rfl, rfl⟩ ⟨Nat.le_of_ble_eq_true rfl, Nat.le_of_ble_eq_true rfl⟩ rfl hl (Nat.le_of_ble_eq_true rfl) ⟨show _ ≤ (1032 : Nat) by omega, show _ ≤ (4128 : Nat) by omega⟩ dX7_digest_66 ?_
                    refine lv_lstore_n (lv' := [(1, .long (d3 * 31 + ((owS c k (nI z)).toInt64))), (0, .ref (ad 0 0)), (3, .int (nI k)), (4, .int (nI z))]) hx hb dX7_digest_69 rfl hl (by decide) rfl (fun ls hl => ?_)
                    refine lv_iincN (v := 1) (lv' := [(4, .int (nI (z + 1))), (1, .long (d3 * 31 + ((owS c k (nI z)).toInt64))), (0, .ref (ad 0 0)), (3, .int (nI k))]) hx hb dX7_digest_70 hl (k := 3) rfl (by decide) (by decide) rfl (fun ls hl => ?_)
                    refine lv_goto (tgt := 50) hx hb dX7_digest_73 (by decide) ?_
                    exact ih50 (z + 1) (d3 * 31 + ((owS c k (nI z)).toInt64)) (by first | rfl | assumption | omega | (simp [c_14, c_44, c_54]; done) | (simp_all [c_14, c_44, c_54]; done)) (by rw [ha2]; rfl) (by omega) _ _ hX hS _ (lv_sub hl [2, 1, 3, 0] rfl)
              exact lp50 (7 - 0 + 1) 0 d2 (by first | rfl | assumption | omega | (simp [c_14, c_44]; done) | (simp_all [c_14, c_44]; done)) (rfl) (Nat.lt_succ_self _) _ _ hX hS _ (lv_sub hl [1, 2, 3, 0] rfl)
        refine W.widen (k := 96) (n := 384) (by omega) (by omega) ?_
        exact lp36 (c.R 10 0 - 0 + 1) 0 d2 (by first | rfl | assumption | omega | (simp [c_14]; done) | (simp_all [c_14]; done)) (by rw [ha, show k = 12 by omega]; rfl) (Nat.lt_succ_self _) _ _ hX hS _ (lv_sub hl [1, 2, 0] rfl)
      · skip
        refine lv_lload_n hx hb dX7_digest_17 rfl (lv_at hl 1 rfl) ?_
        refine lv_aload_n hx hb dX7_digest_18 rfl (lv_at hl 0 rfl) ?_
        refine lv_iload_n hx hb dX7_digest_19 rfl (lv_at hl 2 rfl) ?_
        refine mu_V (As := [.int (nI k)]) (h0 := ad 0 0) (rest := [.long d2]) (v := maS c (nI k)) hx hb hml hown hC hS hAb (mX7_manyNow l hX k (by first | assumption | omega | decide | (simp only [decide_eq_false_iff_not, decide_eq_true_eq] at *; omega))) (fun q h => h.elim (hA q) (fun z => hN q (Nat.le_trans hS.1 z))) kV_X7_258 ⟨rfl, rfl⟩ ⟨Nat.le_of_ble_eq_true rfl, Nat.le_of_ble_eq_true rfl⟩ (hP.recv hC cM_0 rfl) rfl hl (Nat.le_of_ble_eq_true rfl) ⟨show k * 8 + 8 ≤ (1032 : Nat) by omega, show k * 32 + 32 ≤ (4128 : Nat) by omega⟩ dX7_digest_20 (fun H locs hB hS9 hz hk => ?_)
        have hS := hS9
        have hX : PM E c (nI 0) ly L ad H := hB
        obtain ⟨hP, hly, hLb, wfx, eq0, eq1, eq2⟩ := id hX
        refine lv_i2l (v := (maS c (nI k)).toInt64) hx hb dX7_digest_23 rfl ?_
        refine ro_SL (As := [.long d2, .long ((maS c (nI k)).toInt64)]) (rest := []) (v := d2 * 31 + ((maS c (nI k)).toInt64)) hx hb hml hown hC hS hAb (mX7_add l d2 ((maS c (nI k)).toInt64) ) kS_X7_285 ⟨rfl, rfl⟩ ⟨Nat.le_of_ble_eq_true rfl, Nat.le_of_ble_eq_true rfl⟩ rfl hl (Nat.le_of_ble_eq_true rfl) ⟨show _ ≤ (1032 : Nat) by omega, show _ ≤ (4128 : Nat) by omega⟩ dX7_digest_24 ?_
        refine lv_lstore_n (lv' := [(1, .long (d2 * 31 + ((maS c (nI k)).toInt64))), (0, .ref (ad 0 0)), (3, .int (nI k))]) hx hb dX7_digest_27 rfl hl (by decide) rfl (fun ls hl => ?_)
        refine lv_iincN (v := 1) (lv' := [(3, .int (nI (k + 1))), (1, .long (d2 * 31 + ((maS c (nI k)).toInt64))), (0, .ref (ad 0 0))]) hx hb dX7_digest_28 hl (k := 2) rfl (by decide) (by decide) rfl (fun ls hl => ?_)
        refine lv_goto (tgt := 11) hx hb dX7_digest_31 (by decide) ?_
        refine W.widen (k := (k + 1) * 8) (n := (k + 1) * 32) (by omega) (by omega) ?_
        exact ih11 (k + 1) (d2 * 31 + ((maS c (nI k)).toInt64)) (by first | rfl | assumption | omega | (simp [c_14]; done) | (simp_all [c_14]; done)) (by rw [ha]; rfl) (by omega) _ _ hX hS _ (lv_sub hl [2, 1, 0] rfl)
  refine W.widen (k := 0 * 8) (n := 0 * 32) (by omega) (by omega) ?_
  exact lp11 (12 - 0 + 1) 0 58232 (by first | rfl | assumption | omega | (simp []; done) | (simp_all []; done)) (rfl) (Nat.lt_succ_self _) _ _ hX hS _ (lv_sub hl [2, 1, 0] rfl)
