/-! a Jvm.FP.Core.quotient of ints is no NaN -/
section FPN
def nn (n : Nat) : Prop := n < 2 ^ 64 ∧ n % 2 ^ 63 ≤ 0x7ff0000000000000
theorem nn_asm (s : Bool) {e t : Nat} (h : (e < 2047 ∧ t < 2 ^ 52) ∨ (e = 2047 ∧ t = 0)) : nn (Jvm.FP.Core.assemble Jvm.FP.Core.b64 s e t) := by
  have e1 : Jvm.FP.Core.b64.exps = 2048 := by decide
  have e2 : Jvm.FP.Core.b64.tails = 2 ^ 52 := by decide
  unfold nn Jvm.FP.Core.assemble
  rw [e1, e2]
  cases s with
  | true =>
    show (1 * 2048 + e) * 2 ^ 52 + t < 2 ^ 64 ∧ ((1 * 2048 + e) * 2 ^ 52 + t) % 2 ^ 63 ≤ 0x7ff0000000000000
    omega
  | false =>
    show (0 * 2048 + e) * 2 ^ 52 + t < 2 ^ 64 ∧ ((0 * 2048 + e) * 2 ^ 52 + t) % 2 ^ 63 ≤ 0x7ff0000000000000
    omega
theorem nn_inf (s : Bool) : nn (Jvm.FP.Core.encode Jvm.FP.Core.b64 (.inf s)) := nn_asm s (Or.inr ⟨by decide, rfl⟩)
theorem nn_fin (s : Bool) {c : Nat} {q : Int} (hc : c < 2 ^ 53) (hq : q ≤ Jvm.FP.Core.b64.qmax) : nn (Jvm.FP.Core.encode Jvm.FP.Core.b64 (.fin s c q)) := by
  have e2 : Jvm.FP.Core.b64.tails = 2 ^ 52 := by decide
  have e3 : Jvm.FP.Core.b64.qmax = 971 := by decide
  have e4 : Jvm.FP.Core.b64.qmin = -1074 := by decide
  show nn (if c < Jvm.FP.Core.b64.tails then Jvm.FP.Core.assemble Jvm.FP.Core.b64 s 0 c else Jvm.FP.Core.assemble Jvm.FP.Core.b64 s ((q - Jvm.FP.Core.b64.qmin).toNat + 1) (c - Jvm.FP.Core.b64.tails))
  split
  · rename_i h
    exact nn_asm s (Or.inl ⟨by omega, by rw [e2] at h; exact h⟩)
  · rename_i h
    refine nn_asm s (Or.inl ⟨?_, ?_⟩)
    · rw [e4]; rw [e3] at hq; omega
    · rw [e2] at h ⊢; omega
theorem nn_bound (s : Bool) {c : Nat} (q : Int) (hc : c < 2 ^ 53) : nn (Jvm.FP.Core.encode Jvm.FP.Core.b64 (Jvm.FP.Core.bound Jvm.FP.Core.b64 s c q)) := by
  unfold Jvm.FP.Core.bound
  split
  · exact nn_fin s hc (by assumption)
  · exact nn_inf s
theorem nn_rr (s : Bool) (a d : Nat) (e : Int) : nn (Jvm.FP.Core.encode Jvm.FP.Core.b64 (Jvm.FP.Core.roundRatio Jvm.FP.Core.b64 s a d e)) := by
  unfold Jvm.FP.Core.roundRatio
  split
  · exact nn_fin s (Nat.two_pow_pos _) (by rw [show Jvm.FP.Core.b64.qmin = -1074 by decide, show Jvm.FP.Core.b64.qmax = 971 by decide]; omega)
  · unfold Jvm.FP.Core.roundAt Jvm.FP.Core.settle
    split
    · rename_i h; exact nn_bound s _ h
    · exact nn_bound s _ (by rw [show Jvm.FP.Core.b64.tails = 2 ^ 52 by decide]; omega)
theorem nn_dec {n : Nat} (h : nn n) : Jvm.FP.Core.decode Jvm.FP.Core.b64 n ≠ .nan := by
  have e1 : Jvm.FP.Core.b64.exps = 2048 := by decide
  have e2 : Jvm.FP.Core.b64.tails = 2 ^ 52 := by decide
  obtain ⟨h1, h2⟩ := h
  unfold Jvm.FP.Core.decode Jvm.FP.Core.fieldE Jvm.FP.Core.fieldT
  rw [e1, e2]
  split
  · rename_i h3
    split
    · intro z; cases z
    · rename_i h4; omega
  · split
    · intro z; cases z
    · intro z; cases z
theorem nn_quo {d : Jvm.FP.Core.Datum} (hd : d ≠ .nan) (t : Bool) {k : Nat} (hk : k ≠ 0) (r : Int) : nn (Jvm.FP.Core.encode Jvm.FP.Core.b64 (Jvm.FP.Core.quotient Jvm.FP.Core.b64 d (.fin t k r))) := by
  cases d with
  | nan => exact absurd rfl hd
  | inf s => exact nn_inf _
  | fin s c q =>
    show nn (Jvm.FP.Core.encode Jvm.FP.Core.b64 (if k = 0 then _ else _))
    rw [if_neg hk]
    exact nn_rr _ _ _ _
theorem nn_vf {r : Nat} (h : nn r) : vf_n64 (UInt64.ofNat r) := by
  unfold vf_n64
  rw [UInt64.le_iff_toNat_le, UInt64.toNat_and]
  have e1 : (UInt64.ofNat r).toNat = r := UInt64.toNat_ofNat_of_lt' (by simpa using h.1)
  rw [e1]
  have e2 : (0x7fffffffffffffff : UInt64).toNat = 2 ^ 63 - 1 := by decide
  have e3 : (0x7ff0000000000000 : UInt64).toNat = 0x7ff0000000000000 := by decide
  rw [e2, e3, Nat.and_two_pow_sub_one_eq_mod]
  exact h.2
theorem i2d_nn (v : Int32) : nn (Jvm.FP.Core.i2d v).toNat := by
  have h : nn (Jvm.FP.Core.fromInt Jvm.FP.Core.b64 v.toInt) := nn_rr _ _ _ _
  have e1 : (Jvm.FP.Core.i2d v).toNat = Jvm.FP.Core.fromInt Jvm.FP.Core.b64 v.toInt := UInt64.toNat_ofNat_of_lt' (by simpa using h.1)
  rw [e1]; exact h
theorem i2d_8 : ∀ n : Nat, n < 8 → ∃ t k r, k ≠ 0 ∧ Jvm.FP.Core.decode Jvm.FP.Core.b64 (Jvm.FP.Core.i2d (nI (n + 1))).toNat = .fin t k r := by
  intro n hn
  match n, hn with
  | 0, _ => exact ⟨false, 2 ^ 52, -52, by decide, by decide +kernel⟩
  | 1, _ => exact ⟨false, 2 ^ 52, -51, by decide, by decide +kernel⟩
  | 2, _ => exact ⟨false, 3 * 2 ^ 51, -51, by decide, by decide +kernel⟩
  | 3, _ => exact ⟨false, 2 ^ 52, -50, by decide, by decide +kernel⟩
  | 4, _ => exact ⟨false, 5 * 2 ^ 50, -50, by decide, by decide +kernel⟩
  | 5, _ => exact ⟨false, 6 * 2 ^ 50, -50, by decide, by decide +kernel⟩
  | 6, _ => exact ⟨false, 7 * 2 ^ 50, -50, by decide, by decide +kernel⟩
  | 7, _ => exact ⟨false, 2 ^ 52, -49, by decide, by decide +kernel⟩
theorem mean_n (v : Int32) {n : Nat} (h1 : 1 ≤ n) (h8 : n ≤ 8) : vf_n64 (Jvm.FP.ddiv (Jvm.FP.i2d v) (Jvm.FP.i2d (nI n))) := by
  obtain ⟨t, k, r, hk, e⟩ := i2d_8 (n - 1) (by omega)
  rw [show n - 1 + 1 = n by omega] at e
  show vf_n64 (UInt64.ofNat (Jvm.FP.Core.div Jvm.FP.Core.b64 (Jvm.FP.Core.i2d v).toNat (Jvm.FP.Core.i2d (nI n)).toNat))
  refine nn_vf ?_
  show nn (Jvm.FP.Core.encode Jvm.FP.Core.b64 (Jvm.FP.Core.quotient Jvm.FP.Core.b64 (Jvm.FP.Core.decode Jvm.FP.Core.b64 (Jvm.FP.Core.i2d v).toNat) (Jvm.FP.Core.decode Jvm.FP.Core.b64 (Jvm.FP.Core.i2d (nI n)).toNat)))
  rw [e]
  exact nn_quo (nn_dec (i2d_nn v)) t hk r
end FPN
/-! meanFame -/
abbrev QdR (v : UInt64) (H : Heap) : Array Value → State → Outcome → State → Prop := va_Qd (fun (r : UInt64) (_ : Unit) => r = v) (fun _ t => t.heap = H) noA
abbrev RoD (l : Launch) (y : MethodName) (b : ByteArray) (n : Nat) (rm : Room) (av : List Value) (E : En) (H : Heap) (v : UInt64) : Prop := Met l y [.code y b n (some .double)] rm (PcR av E H) (QdR v H) 0 0 noA
abbrev QdM (v : UInt64) (B : Heap → Prop) (A1 : Nat → Prop) : Array Value → State → Outcome → State → Prop := va_Qd (fun (r : UInt64) (_ : Unit) => r = v) (fun _ t => B t.heap) A1
abbrev MuD (l : Launch) (y : MethodName) (b : ByteArray) (n : Nat) (rm : Room) (av : List Value) (E : En) (H : Heap) (v : UInt64) (B : Heap → Prop) (A1 : Nat → Prop) (mc ms : Nat) : Prop := Met l y [.code y b n (some .double)] rm (PcR av E H) (QdM v B A1) mc ms A1
section DRT
variable {p : Program} {l : Launch} {e : Env} {R : Room} {s : State} {m : MethodId} {args : Array Value} {below : List Frame} {meth : Method} {c : Code} {H : Heap} {locs : List Loc} {cc : ByteArray} {pc : Nat} {ls : Array Slot}
theorem ro_dret {v x : UInt64} (hx : p.tables.exec = Jvm.exec) (hb : c.code = cc) (hr : meth.sig.returnType = some .double) (hlocks : meth.locks = false) (hH : s.heap = H) (hv : x = v) (hdg : decode cc pc = .ok (.dreturn, 1)) : W p l e R s m args below meth c H [] 0 0 (MQ below (QdR v H) args s 0 0 noA) (F0 m pc ls [.double x]) := by
  subst hv
  exact W.dret hx hb hr (fun t ht hW => ⟨⟨x, (), rfl, rfl, ht⟩, (va_S.rf (A := noA) (H0 := s.heap)).F (ht.trans hH.symm)⟩) (fun q hq => absurd hq List.not_mem_nil) hdg
theorem mu_dret {v x : UInt64} {mc ms : Nat} {B : Heap → Prop} {A1 : Nat → Prop} (hx : p.tables.exec = Jvm.exec) (hb : c.code = cc) (hr : meth.sig.returnType = some .double) (hlocks : meth.locks = false) (hS : va_S A1 s.heap H locs) (hB : B H) (hv : x = v) (hdg : decode cc pc = .ok (.dreturn, 1)) : W p l e R s m args below meth c H locs mc ms (MQ below (QdM v B A1) args s mc ms A1) (F0 m pc ls [.double x]) := by
  subst hv
  exact W.dret hx hb hr (fun t ht hW => ⟨⟨x, (), rfl, rfl, by show B t.heap; rw [ht]; exact hB⟩, hS.F ht⟩) hS.2.2 hdg
end DRT
/-- the mean fame -/
def mfS (c : Cy) : UInt64 := if c.R 10 1 = 0 then Jvm.FP.dconst0 else Jvm.FP.ddiv (Jvm.FP.i2d (smI (fun h => fmS c h) (c.R 10 1))) (Jvm.FP.i2d (nI (c.R 10 1)))
theorem mf_0 {c : Cy} (h : decide (c.R 10 1 = 0) = true) : Jvm.FP.dconst0 = mfS c := by
  unfold mfS; rw [if_pos (by simpa using h)]
theorem mf_n {c : Cy} {a : Int32} (h : decide (c.R 10 1 = 0) = false) (ha : a = smI (fun h => fmS c h) (c.R 10 1)) : Jvm.FP.ddiv (Jvm.FP.i2d a) (Jvm.FP.i2d (nI (c.R 10 1))) = mfS c := by
  unfold mfS; rw [if_neg (by simpa using h), ha]
set_option maxHeartbeats 4000000 in
set_option maxRecDepth 100000 in
theorem mX3_meanFame (l : Launch) {E : En} {c : Cy} {ly : Ly} {L : List Nat} {ad : Nat → Nat → Nat} {H : Heap} (hX : PX E c ly L ad H)   : RoD l yX3_meanFame cX3_meanFame 3 (rmk 4 0 0 89) [.ref (ad 0 0)] E H (mfS c) := by
  obtain ⟨hP, hly, hLb, wf⟩ := id hX
  refine ro_of (by decide) (Nat.le_of_ble_eq_true rfl) ?_
  intro p e s m below meth co ls hx hb hr hml hown hlocks hnm hC hU hl
  have hS : va_S noA s.heap H [] := by rw [hU]; exact va_S.rf
  have hAb : ∀ q, noA q → bA E q := fun _ h => h.elim
  have hl : lv_has ls 3 [(0, .ref (ad 0 0))] := hl
  refine lv_aload_n hx hb dX3_meanFame_0 rfl (lv_at hl 0 rfl) ?_
  refine pi_get hx hb hC hown hP fL_X3_16 0 0 cX_0 (v := .ref (ad 1 1)) rfl dX3_meanFame_1 ?_
  refine ro_V (As := []) (h0 := ad 1 1) (rest := []) (v := bI (decide (c.R 10 1 = 0))) hx hb hml hown hC hS hAb (mJ_isEmpty l hP 1 (cX_1 (by decide)) (by have := wf.sw; have := wf.sh'; have := wf.sl; have := wf.nw; have := wf.nh; have := wf.nl; omega)) kV_X3_324 ⟨rfl, rfl⟩ ⟨Nat.le_of_ble_eq_true rfl, Nat.le_of_ble_eq_true rfl⟩ (hP.recv hC (cX_1 (i := 1) (by decide)) rfl) rfl hl (Nat.le_of_ble_eq_true rfl) ⟨Nat.zero_le _, Nat.zero_le _⟩ dX3_meanFame_4 ?_
  have g_1 := wf.sh'
  have g_2 := wf.nh
  refine lv_bif_eq (tgt := 12) hx hb dX3_meanFame_7 (by decide) (fun c_7 => ?_) (fun c_7 => ?_)
  · skip
    refine lv_iconstN hx hb 0 dX3_meanFame_12 (by decide) ?_
    refine lv_istore_n (lv' := [(1, .int (nI 0)), (0, .ref (ad 0 0))]) hx hb dX3_meanFame_13 rfl hl (by decide) rfl (fun ls hl => ?_)
    refine lv_iconstN hx hb 0 dX3_meanFame_14 (by decide) ?_
    refine lv_istore_n (lv' := [(2, .int (nI 0)), (1, .int (nI 0)), (0, .ref (ad 0 0))]) hx hb dX3_meanFame_15 rfl hl (by decide) rfl (fun ls hl => ?_)
    have lp16 : ∀ fu : Nat, ∀ (k : Nat) (a : Int32), k ≤ c.R 10 1 → a = smI (fun h => fmS c h) k → c.R 10 1 - k < fu → ∀ ls : Array Slot, lv_has ls 3 [(0, .ref (ad 0 0)), (1, .int a), (2, .int (nI k))] → W p l e (rmk 4 0 0 89) s m ([.ref (ad 0 0)] : List Value).toArray below meth co H [] 0 0 (MQ below (QdR (mfS c) H) ([.ref (ad 0 0)] : List Value).toArray s 0 0 noA) (F0 m 16 ls []) := by
      intro fu
      induction fu with
      | zero => intro k a hk ha hfu; exact absurd hfu (Nat.not_lt_zero _)
      | succ fu ih16 =>
        intro k a hk ha hfu ls hl
        refine lv_iload_n hx hb dX3_meanFame_16 rfl (lv_at hl 2 rfl) ?_
        refine lv_aload_n hx hb dX3_meanFame_17 rfl (lv_at hl 0 rfl) ?_
        refine pi_get hx hb hC hown hP fL_X3_16 0 0 cX_0 (v := .ref (ad 1 1)) rfl dX3_meanFame_18 ?_
        refine ro_V (As := []) (h0 := ad 1 1) (rest := [.int (nI k)]) (v := nI (c.R 10 1)) hx hb hml hown hC hS hAb (mJ_size l hP 1 (cX_1 (by decide))) kV_X3_43 ⟨rfl, rfl⟩ ⟨Nat.le_of_ble_eq_true rfl, Nat.le_of_ble_eq_true rfl⟩ (hP.recv hC (cX_1 (i := 1) (by decide)) rfl) rfl hl (Nat.le_of_ble_eq_true rfl) ⟨Nat.zero_le _, Nat.zero_le _⟩ dX3_meanFame_21 ?_
        refine lv_icmpN_ge (tgt := 51) hx hb dX3_meanFame_24 (by decide) (by omega) (by omega) (fun c_24 => ?_) (fun c_24 => ?_)
        · skip
          refine lv_iload_n hx hb dX3_meanFame_51 rfl (lv_at hl 1 rfl) ?_
          refine lv_i2d hx hb dX3_meanFame_52 ?_
          refine lv_aload_n hx hb dX3_meanFame_53 rfl (lv_at hl 0 rfl) ?_
          refine pi_get hx hb hC hown hP fL_X3_16 0 0 cX_0 (v := .ref (ad 1 1)) rfl dX3_meanFame_54 ?_
          refine ro_V (As := []) (h0 := ad 1 1) (rest := [.double (Jvm.FP.i2d (a))]) (v := nI (c.R 10 1)) hx hb hml hown hC hS hAb (mJ_size l hP 1 (cX_1 (by decide))) kV_X3_43 ⟨rfl, rfl⟩ ⟨Nat.le_of_ble_eq_true rfl, Nat.le_of_ble_eq_true rfl⟩ (hP.recv hC (cX_1 (i := 1) (by decide)) rfl) rfl hl (Nat.le_of_ble_eq_true rfl) ⟨Nat.zero_le _, Nat.zero_le _⟩ dX3_meanFame_57 ?_
          refine lv_i2d hx hb dX3_meanFame_60 ?_
          refine lv_ddiv hx hb dX3_meanFame_61 (mean_n _ (by simp only [decide_eq_false_iff_not, decide_eq_true_eq] at *; omega) (by omega)) ?_
          exact ro_dret (x := Jvm.FP.ddiv (Jvm.FP.i2d (a)) (Jvm.FP.i2d (nI (c.R 10 1)))) hx hb hr hlocks hU (by first | exact mf_0 c_7 | exact mf_n c_7 (by rw [ha, show k = c.R 10 1 by omega])) dX3_meanFame_62
        · skip
          refine lv_iload_n hx hb dX3_meanFame_27 rfl (lv_at hl 1 rfl) ?_
          refine lv_aload_n hx hb dX3_meanFame_28 rfl (lv_at hl 0 rfl) ?_
          refine lv_aload_n hx hb dX3_meanFame_29 rfl (lv_at hl 0 rfl) ?_
          refine pi_get hx hb hC hown hP fL_X3_16 0 0 cX_0 (v := .ref (ad 1 1)) rfl dX3_meanFame_30 ?_
          refine lv_iload_n hx hb dX3_meanFame_33 rfl (lv_at hl 2 rfl) ?_
          refine ro_VR (As := [.int (nI k)]) (h0 := ad 1 1) (rest := [.ref (ad 0 0), .int a]) (v := some (ad 5 k)) hx hb hml hown hC hS hAb (mJ_get l hP 1 (cX_1 (by decide)) (fun h9 => cX_2 (by decide) h9) (hly 1 (by decide)) k (by first | assumption | omega | (simp only [decide_eq_false_iff_not, decide_eq_true_eq] at *; omega))) kV_X3_327 ⟨rfl, rfl⟩ ⟨Nat.le_of_ble_eq_true rfl, Nat.le_of_ble_eq_true rfl⟩ (hP.recv hC (cX_1 (i := 1) (by decide)) rfl) rfl hl (Nat.le_of_ble_eq_true rfl) ⟨Nat.zero_le _, Nat.zero_le _⟩ dX3_meanFame_34 ?_
          have hg_3 : k < c.R 11 1 := by have := wf.sh'; omega
          refine pi_cast (nm := "") hx hb hC hown hP 5 k (cX_5 hg_3) rfl wCl_X3_65 dX3_meanFame_37 ?_
          refine ro_V (As := [.ref (ad 5 k)]) (h0 := ad 0 0) (rest := [.int a]) (v := fmS c k) hx hb hml hown hC hS hAb (mX3_fameOf l hX k hg_3) kV_X3_249 ⟨rfl, rfl⟩ ⟨Nat.le_of_ble_eq_true rfl, Nat.le_of_ble_eq_true rfl⟩ (hP.recv hC cX_0 rfl) rfl hl (Nat.le_of_ble_eq_true rfl) ⟨Nat.zero_le _, Nat.zero_le _⟩ dX3_meanFame_40 ?_
          refine lv_iadd hx hb dX3_meanFame_43 ?_
          refine lv_istore_n (lv' := [(1, .int (a + (fmS c k))), (0, .ref (ad 0 0)), (2, .int (nI k))]) hx hb dX3_meanFame_44 rfl hl (by decide) rfl (fun ls hl => ?_)
          refine lv_iincN (v := 1) (lv' := [(2, .int (nI (k + 1))), (1, .int (a + (fmS c k))), (0, .ref (ad 0 0))]) hx hb dX3_meanFame_45 hl (k := 2) rfl (by decide) (by decide) rfl (fun ls hl => ?_)
          refine lv_goto (tgt := 16) hx hb dX3_meanFame_48 (by decide) ?_
          exact ih16 (k + 1) (a + (fmS c k)) (by first | rfl | assumption | omega | (simp [c_7, ha, c_24]; done) | (simp_all [c_7, ha, c_24]; done)) (by rw [ha]; rfl) (by omega) _ (lv_sub hl [2, 1, 0] rfl)
    exact lp16 (c.R 10 1 - 0 + 1) 0 (nI 0) (by first | rfl | assumption | omega | (simp [c_7]; done) | (simp_all [c_7]; done)) (rfl) (Nat.lt_succ_self _) _ (lv_sub hl [2, 1, 0] rfl)
  · skip
    refine lv_dconst0 hx hb dX3_meanFame_10 ?_
    exact ro_dret (x := Jvm.FP.dconst0) hx hb hr hlocks hU (by first | exact mf_0 c_7 | exact mf_n c_7 (by rw [ha, show k = c.R 10 1 by omega])) dX3_meanFame_11

