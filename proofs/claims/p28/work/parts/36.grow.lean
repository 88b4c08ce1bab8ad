/-! ArrayList.grow -/
theorem sh1 : ∀ p, p < 128 → nI p >>> (nI 1 &&& 31) = nI (p / 2) := by decide +kernel
def gwP (p : Nat) : Nat := if p = 0 then 10 else p + max 1 (p / 2)
theorem wFlE : .fieldLink RJx4a65c 39 "java/util/ArrayList" "DEFAULTCAPACITY_EMPTY_ELEMENTDATA" "[Ljava/lang/Object;" ∈ WG := wg_t 40 (by decide +kernel) (by decide +kernel)
theorem PI.by {D : va_G} {L : List Nat} {ct ct2 : Nat → Nat → Option va_E} {ad ad2 : Nat → Nat → Nat} {H : Heap} (h : PI D L ct ad H) (g : Nat → Nat → Nat × Nat) (e : ∀ k i x, ct2 k i = some x → ct (g k i).1 (g k i).2 = some x ∧ ad2 k i = ad (g k i).1 (g k i).2) (hg : ∀ k i k' i' x x', ct2 k i = some x → ct2 k' i' = some x' → g k i = g k' i' → k = k' ∧ i = i') : PI D L ct2 ad2 H := by
  obtain ⟨f, hP, hD, hm, hi⟩ := h
  refine ⟨f, hP, hD, fun k i x hx => ?_, fun k i k' i' x x' hx hx' hq => ?_⟩
  · obtain ⟨e1, e2⟩ := e k i x hx
    rw [e2]; exact hm _ _ x e1
  · obtain ⟨e1, e2⟩ := e k i x hx
    obtain ⟨e3, e4⟩ := e k' i' x' hx'
    have z := hi _ _ _ _ x x' e1 e3 (by rw [← e2, ← e4]; exact hq)
    exact hg k i k' i' x x' hx hx' (Prod.ext z.1 z.2)
section GRW
variable {E : En} {L : List Nat} {ct : Nat → Nat → Option va_E} {ad : Nat → Nat → Nat} {H0 : Heap}
/-- the list's array has grown -/
def gwB (sz : Nat) (E : En) (L : List Nat) (ct : Nat → Nat → Option va_E) (ad : Nat → Nat → Nat) (i n p : Nat) (md : Int32) (f : Nat → Option Nat) : Nat → Heap → Prop := fun a H1 => sz ≤ a ∧ a ∉ L ∧ PI E.1 (L ++ [a]) (ctu (ctu ct 2 i (.inl (E.2 3, gwP p, .inr (.inr (.inr (.inr (va_cpy f (fun _ => none) 0 0 p))))))) 1 i (.inr (1, [.int md, .ref a, .int (nI n)]))) (up2 ad 2 i a) H1
theorem va_cpy0 {f g : Nat → Option Nat} : va_cpy f g 0 0 0 = g := by
  funext k
  unfold va_cpy
  rw [if_neg (by omega)]
set_option maxHeartbeats 4000000 in
set_option maxRecDepth 100000 in
theorem mJ_grow1 (l : Launch) (hP : PI E.1 L ct ad H0) (hLb : ∀ q, q ∈ L → bA E q) (i : Nat) {n p : Nat} {md : Int32} {f : Nat → Option Nat} (he : ct 1 i = some (.inr (1, [.int md, .ref (ad 2 i), .int (nI n)]))) (he2 : 0 < p → ct 2 i = some (.inl (E.2 3, p, .inr (.inr (.inr (.inr f)))))) (hp : p < 128) (hp0 : p = 0 → ad 2 i = E.2 9) (h80 : ct 8 0 = none) {ci N : Nat} {T : u_T} {C : String} (hc : vwCl[ci]? = some (C, T, N)) (hca : CO C) (hel : ∀ j y, f j = some y → ∃ k' i' fs, k' < 8 ∧ y = ad k' i' ∧ ct k' i' = some (.inr (ci, fs))) : MuR l yJx4a65c_grow_92f84 cJx4a65c_grow_92f84 4 (.array (.object "java/lang/Object")) (rmk 3 1 200 90) [.ref (ad 1 i), .int (nI (p + 1))] E H0 (gwB H0.size E L ct ad i n p md f) (cA L H0) 1 200 := by
  refine ro_of (by decide) (Nat.le_of_ble_eq_true rfl) ?_
  intro pr e s m below meth co ls hx hb hr hml hown hlocks hnm hC hU hl
  have hl : lv_has ls 4 [(0, .ref (ad 1 i)), (1, .int (nI (p + 1)))] := hl
  have hS : va_S (cA L H0) s.heap H0 [] := by rw [hU]; exact va_S.rf
  have hA : ∀ q, q ∈ L → cA L H0 q := fun q h => Or.inl h
  have hN : ∀ q, s.heap.size ≤ q → cA L H0 q := fun q h => Or.inr (by rw [← hU]; exact h)
  have hAb : ∀ q, cA L H0 q → bA E q := fun q h => h.elim (hLb q) (fun z => Nat.le_trans hC.2.2.2.1 (by rw [hU]; exact z))
  have hG : Ge E s s.heap := hC.2.2.1.2.2.2.2.1
  refine lv_aload_n hx hb dJx4a65c_grow_92f84_0 rfl (lv_at hl 0 rfl) ?_
  refine pi_get hx hb hC hown hP fL_Jx4a65c_9 1 i he (v := .ref (ad 2 i)) rfl dJx4a65c_grow_92f84_1 ?_
  by_cases hz : p = 0
  · subst hz
    have e9 := hp0 rfl
    rw [e9]
    refine va_tlen (v := nI 0) hx hb (hG.2.narrow hAb) hS rfl dJx4a65c_grow_92f84_4 ?_
    refine lv_istore_n (lv' := [(2, .int (nI 0)), (0, .ref (ad 1 i)), (1, .int (nI (0 + 1)))]) hx hb dJx4a65c_grow_92f84_5 rfl hl (by decide) rfl (fun ls hl => ?_)
    refine lv_iload_n hx hb dJx4a65c_grow_92f84_6 rfl (lv_at hl 0 rfl) ?_
    refine lv_ifN_gt (tgt := 20) hx hb dJx4a65c_grow_92f84_7 (by decide) (by omega) (fun z => absurd z (by omega)) (fun _ => ?_)
    refine lv_aload_n hx hb dJx4a65c_grow_92f84_10 rfl (lv_at hl 1 rfl) ?_
    refine pi_get hx hb hC hown hP fL_Jx4a65c_9 1 i he (v := .ref (ad 2 i)) rfl dJx4a65c_grow_92f84_11 ?_
    rw [e9]
    refine va_gets hx hb (hG.1.narrow hAb) hS hown (hC.2.1.hts _ _ wFlE) (fun _ h => h) dJx4a65c_grow_92f84_14 ?_
    refine lv_acmp_eq (rx := some (E.2 9)) (ry := some (E.2 9)) (tgt := 45) hx hb dJx4a65c_grow_92f84_17 (by decide) (fun _ => ?_) (fun z => absurd rfl z)
    refine lv_aload_n hx hb dJx4a65c_grow_92f84_45 rfl (lv_at hl 1 rfl) ?_
    refine lv_bipushN hx hb 10 dJx4a65c_grow_92f84_46 (by decide) ?_
    refine lv_iload_n hx hb dJx4a65c_grow_92f84_48 rfl (lv_at hl 2 rfl) ?_
    refine va_mmax hx hb (hml.trans hl.1.symm) hown (hC.2.1.hts _ _ wMax_AL) (hC.2.1.hts _ _ wMaxS) (hC.2.1.hts _ _ wAbsI) (hC.2.1.hts _ _ wMaxC) (Nat.le_of_ble_eq_true rfl) (Nat.le_of_ble_eq_true rfl) (Nat.zero_le _) (Nat.zero_le _) (x := nI 10) (y := nI (0 + 1)) dJx4a65c_grow_92f84_49 ?_
    rw [nI_max (by omega) (by omega)]
    refine pi_newq hx hb hC hown hP hS hA hN wCl_Jx4a65c_7 hC.2.2.2.2.2.2.2.1 2 rfl (max 10 (0 + 1)) (by omega) 2 i ⟨Nat.le_of_ble_eq_true rfl, Nat.le_of_ble_eq_true rfl⟩ dJx4a65c_grow_92f84_52 (fun q H hq hAq hP hS => ?_)
    have hA : ∀ z, z ∈ L ++ [q] → cA L H0 z := fun z h => (List.mem_append.mp h).elim Or.inl (fun h => by rw [List.mem_singleton.mp h]; exact hAq)
    have a1 : up2 ad 2 i q 1 i = ad 1 i := if_neg (by omega)
    refine lv_dup_x1 hx hb dJx4a65c_grow_92f84_55 rfl rfl ?_
    rw [← a1]
    refine pi_put hx hb hC hown hP hS hA fP_Jx4a65c_9 1 i ((if_neg (by omega)).trans he) (v := .ref q) rfl rfl (Nat.le_of_ble_eq_true rfl) dJx4a65c_grow_92f84_56 (fun H locs hP hS => ?_)
    refine W.widen (k := 1) (n := 200) (by omega) (by omega) ?_
    refine areA hx hb hr hlocks hS ⟨hAq.elim (fun h => absurd h hq) id, hq, ?_⟩ dJx4a65c_grow_92f84_59
    rw [va_cpy0]
    exact hP
  · refine pi_alen (n := p) hx hb hC hP 2 i 2 rfl (he2 (by omega)) dJx4a65c_grow_92f84_4 ?_
    refine lv_istore_n (lv' := [(2, .int (nI p)), (0, .ref (ad 1 i)), (1, .int (nI (p + 1)))]) hx hb dJx4a65c_grow_92f84_5 rfl hl (by decide) rfl (fun ls hl => ?_)
    refine lv_iload_n hx hb dJx4a65c_grow_92f84_6 rfl (lv_at hl 0 rfl) ?_
    refine lv_ifN_gt (tgt := 20) hx hb dJx4a65c_grow_92f84_7 (by decide) (by omega) (fun _ => ?_) (fun z => absurd z (by omega))
    refine lv_iload_n hx hb dJx4a65c_grow_92f84_20 rfl (lv_at hl 0 rfl) ?_
    refine lv_iload_n hx hb dJx4a65c_grow_92f84_21 rfl (lv_at hl 2 rfl) ?_
    refine lv_iload_n hx hb dJx4a65c_grow_92f84_22 rfl (lv_at hl 0 rfl) ?_
    refine lv_isubN hx hb dJx4a65c_grow_92f84_23 (by omega) ?_
    refine lv_iload_n hx hb dJx4a65c_grow_92f84_24 rfl (lv_at hl 0 rfl) ?_
    refine lv_iconstN hx hb 1 dJx4a65c_grow_92f84_25 (by decide) ?_
    refine lv_ishr hx hb dJx4a65c_grow_92f84_26 ?_
    rw [sh1 p hp]
    refine ro_S (As := [.int (nI p), .int (nI (p + 1 - p)), .int (nI (p / 2))]) (rest := []) (v := nI (p + max (p + 1 - p) (p / 2))) hx hb hml hown hC hS hAb (mJ8_newLength_cabcc l p (p + 1 - p) (p / 2) (by omega) (by omega) (by omega) (by omega)) kS_Jx4a65c_73 ⟨rfl, rfl⟩ ⟨Nat.le_of_ble_eq_true rfl, Nat.le_of_ble_eq_true rfl⟩ rfl hl (Nat.le_of_ble_eq_true rfl) ⟨Nat.zero_le _, Nat.zero_le _⟩ dJx4a65c_grow_92f84_27 ?_
    refine lv_istore_n (lv' := [(3, .int (nI (p + max (p + 1 - p) (p / 2)))), (2, .int (nI p)), (0, .ref (ad 1 i)), (1, .int (nI (p + 1)))]) hx hb dJx4a65c_grow_92f84_30 rfl hl (by decide) rfl (fun ls hl => ?_)
    refine lv_aload_n hx hb dJx4a65c_grow_92f84_31 rfl (lv_at hl 2 rfl) ?_
    refine lv_aload_n hx hb dJx4a65c_grow_92f84_32 rfl (lv_at hl 2 rfl) ?_
    refine pi_get hx hb hC hown hP fL_Jx4a65c_9 1 i he (v := .ref (ad 2 i)) rfl dJx4a65c_grow_92f84_33 ?_
    refine lv_iload_n hx hb dJx4a65c_grow_92f84_36 rfl (lv_at hl 0 rfl) ?_
    refine mu_SR (As := [.ref (ad 2 i), .int (nI (p + max (p + 1 - p) (p / 2)))]) (rest := [.ref (ad 1 i)]) hx hb hml hown hC hS hAb (mJ_copy2 l hP hLb 2 i (by omega) (he2 (by omega)) (by omega) (by omega) hc hca hel) (fun _ h => h) kS_Jx4a65c_66 ⟨rfl, rfl⟩ ⟨Nat.le_of_ble_eq_true rfl, Nat.le_of_ble_eq_true rfl⟩ rfl hl (Nat.le_of_ble_eq_true rfl) ⟨Nat.le_of_ble_eq_true rfl, Nat.le_of_ble_eq_true rfl⟩ dJx4a65c_grow_92f84_37 (fun a H locs hB hS hz9 hk9 => ?_)
    obtain ⟨hsz, hq, hP⟩ := hB
    have hAq : cA L H0 a := Or.inr hsz
    have hA : ∀ z, z ∈ L ++ [a] → cA L H0 z := fun z h => (List.mem_append.mp h).elim Or.inl (fun h => by rw [List.mem_singleton.mp h]; exact hAq)
    have a1 : up2 ad 8 0 a 1 i = ad 1 i := if_neg (by omega)
    refine lv_dup_x1 hx hb dJx4a65c_grow_92f84_40 rfl rfl ?_
    rw [← a1]
    refine pi_put hx hb hC hown hP hS hA fP_Jx4a65c_9 1 i ((if_neg (by omega)).trans he) (v := .ref a) rfl rfl (Nat.le_of_ble_eq_true rfl) dJx4a65c_grow_92f84_41 (fun H locs hP hS => ?_)
    refine areA hx hb hr hlocks hS ⟨hsz, hq, hP.by (fun k j => if k = 2 ∧ j = i then (8, 0) else (k, j)) (fun k j x hx => ?_) (fun k j k' j' x x' h1 h2 h3 => ?_)⟩ dJx4a65c_grow_92f84_44
    · by_cases z : k = 2 ∧ j = i
      · rw [z.1, z.2] at hx ⊢
        rw [if_pos ⟨rfl, rfl⟩]
        have e1 : gwP p = p + max (p + 1 - p) (p / 2) := by unfold gwP; rw [if_neg hz, show p + 1 - p = 1 by omega]
        rw [e1] at hx
        exact ⟨(show ctu _ 1 i _ 8 0 = _ from if_neg (by omega)).trans ((if_pos ⟨rfl, rfl⟩).trans (((show ctu _ 1 i _ 2 i = _ from if_neg (by omega)).trans (if_pos ⟨rfl, rfl⟩)).symm.trans hx)), (up2_same ad 2 i a).trans (up2_same ad 8 0 a).symm⟩
      · rw [if_neg z]
        by_cases y : k = 8 ∧ j = 0
        · exfalso
          rw [y.1, y.2] at hx
          have hx2 : ct 8 0 = some x := hx
          rw [h80] at hx2; cases hx2
        · refine ⟨?_, (up2_ne ad a z).trans (up2_ne ad a y).symm⟩
          unfold ctu at hx ⊢
          by_cases w : k = 1 ∧ j = i
          · rw [if_pos w] at hx ⊢; exact hx
          · rw [if_neg w] at hx ⊢
            rw [if_neg z] at hx
            rw [if_neg y]; exact hx
    · have n8 : ∀ k j x, ctu (ctu ct 2 i (.inl (E.2 3, gwP p, .inr (.inr (.inr (.inr (va_cpy f (fun _ => none) 0 0 p))))))) 1 i (.inr (1, [.int md, .ref a, .int (nI n)])) k j = some x → ¬ (k = 8 ∧ j = 0) := fun k j x hx y => by
        rw [y.1, y.2] at hx
        have hx2 : ct 8 0 = some x := hx
        rw [h80] at hx2; cases hx2
      by_cases z : k = 2 ∧ j = i <;> by_cases z' : k' = 2 ∧ j' = i
      · exact ⟨z.1.trans z'.1.symm, z.2.trans z'.2.symm⟩
      · rw [if_pos z, if_neg z'] at h3
        exact absurd ⟨(congrArg Prod.fst h3).symm, (congrArg Prod.snd h3).symm⟩ (n8 k' j' x' h2)
      · rw [if_neg z, if_pos z'] at h3
        exact absurd ⟨congrArg Prod.fst h3, congrArg Prod.snd h3⟩ (n8 k j x h1)
      · rw [if_neg z, if_neg z'] at h3
        exact ⟨congrArg Prod.fst h3, congrArg Prod.snd h3⟩
end GRW
