/-! ArrayList.add -/
section ADD
variable {E : En} {L : List Nat} {ct : Nat → Nat → Option va_E} {ad : Nat → Nat → Nat} {H0 : Heap}
set_option maxHeartbeats 4000000 in
set_option maxRecDepth 100000 in
theorem mJ_grow0 (l : Launch) (hP : PI E.1 L ct ad H0) (hLb : ∀ q, q ∈ L → bA E q) (i : Nat) {p : Nat} {md : Int32} {f : Nat → Option Nat} (he : ct 1 i = some (.inr (1, [.int md, .ref (ad 2 i), .int (nI p)]))) (he2 : 0 < p → ct 2 i = some (.inl (E.2 3, p, .inr (.inr (.inr (.inr f)))))) (hp : p < 128) (hp0 : p = 0 → ad 2 i = E.2 9) (h80 : ct 8 0 = none) {ci N : Nat} {T : u_T} {C : String} (hc : vwCl[ci]? = some (C, T, N)) (hca : CO C) (hel : ∀ j y, f j = some y → ∃ k' i' fs, k' < 8 ∧ y = ad k' i' ∧ ct k' i' = some (.inr (ci, fs))) : MuR l yJx4a65c_grow_d5877 cJx4a65c_grow_d5877 1 (.array (.object "java/lang/Object")) (rmk 4 1 200 120) [.ref (ad 1 i)] E H0 (gwB H0.size E L ct ad i p p md f) (cA L H0) 1 200 := by
  refine ro_of (by decide) (Nat.le_of_ble_eq_true rfl) ?_
  intro pr e s m below meth co ls hx hb hr hml hown hlocks hnm hC hU hl
  have hl : lv_has ls 1 [(0, .ref (ad 1 i))] := hl
  have hS : va_S (cA L H0) s.heap H0 [] := by rw [hU]; exact va_S.rf
  have hAb : ∀ q, cA L H0 q → bA E q := fun q h => h.elim (hLb q) (fun z => Nat.le_trans hC.2.2.2.1 (by rw [hU]; exact z))
  refine lv_aload_n hx hb dJx4a65c_grow_d5877_0 rfl (lv_at hl 0 rfl) ?_
  refine lv_aload_n hx hb dJx4a65c_grow_d5877_1 rfl (lv_at hl 0 rfl) ?_
  refine pi_get hx hb hC hown hP fL_Jx4a65c_48 1 i he (v := .int (nI p)) rfl dJx4a65c_grow_d5877_2 ?_
  refine lv_iconstN hx hb 1 dJx4a65c_grow_d5877_5 (by decide) ?_
  refine lv_iaddN hx hb dJx4a65c_grow_d5877_6 ?_
  refine mu_VR (As := [.int (nI (p + 1))]) (h0 := ad 1 i) (rest := []) hx hb hml hown hC hS hAb (mJ_grow1 l hP hLb i he he2 hp hp0 h80 hc hca hel) (fun _ h => h) kV_Jx4a65c_69 ⟨rfl, rfl⟩ ⟨Nat.le_of_ble_eq_true rfl, Nat.le_of_ble_eq_true rfl⟩ (hP.recv hC he rfl) rfl hl (Nat.le_of_ble_eq_true rfl) ⟨Nat.le_of_ble_eq_true rfl, Nat.le_of_ble_eq_true rfl⟩ dJx4a65c_grow_d5877_7 (fun a H locs hB hS _ _ => ?_)
  exact areA hx hb hr hlocks hS hB dJx4a65c_grow_d5877_10
/-- the list has one more -/
def adB (sz : Nat) (E : En) (L : List Nat) (ct : Nat → Nat → Option va_E) (ad : Nat → Nat → Nat) (i n : Nat) (md : Int32) : Heap → Prop := fun H1 => ∃ (L' : List Nat) (ad' : Nat → Nat → Nat) (p' : Nat), PI E.1 L' (ctu (ctu ct 2 i (.inl (E.2 3, p', .inr (.inr (.inr (.inr (lsf (n + 1) (ad (3 + 2 * i))))))))) 1 i (.inr (1, [.int md, .ref (ad' 2 i), .int (nI (n + 1))]))) ad' H1 ∧ (∀ k j, ¬ (k = 2 ∧ j = i) → ad' k j = ad k j) ∧ (∀ q, q ∈ L' → q ∈ L ∨ sz ≤ q) ∧ (∀ q, q ∈ L → q ∈ L') ∧ n + 1 ≤ p' ∧ p' ≤ 100
theorem lsf_up {n : Nat} {g : Nat → Nat} : va_up (lsf n g) n (some (g n)) = lsf (n + 1) g := by
  funext j
  unfold va_up lsf
  by_cases h : j = n
  · subst h; rw [if_pos rfl, if_pos (by omega)]
  · rw [if_neg h]
    by_cases z : j < n
    · rw [if_pos z, if_pos (by omega)]
    · rw [if_neg z, if_neg (by omega)]
theorem lsf_cp {n : Nat} {g : Nat → Nat} : va_cpy (lsf n g) (fun _ => none) 0 0 n = lsf n g := by
  funext j
  unfold va_cpy lsf
  by_cases z : j < n
  · rw [if_pos (by omega), show 0 + (j - 0) = j by omega, if_pos z]
  · rw [if_neg (by omega), if_neg z]
theorem ctu_self {ct : Nat → Nat → Option va_E} {k i : Nat} {e : va_E} : ctu ct k i e k i = some e := if_pos ⟨rfl, rfl⟩
theorem ctu_n {ct : Nat → Nat → Option va_E} {k i k' i' : Nat} {e : va_E} (h : ¬ (k' = k ∧ i' = i)) : ctu ct k i e k' i' = ct k' i' := if_neg h
theorem ctu4 {ct : Nat → Nat → Option va_E} {i : Nat} {a b c d : va_E} : ∀ k j, ctu (ctu ct 2 i c) 1 i d k j = ctu (ctu (ctu (ctu ct 2 i a) 1 i b) 2 i c) 1 i d k j := by
  intro k j
  unfold ctu
  by_cases h1 : k = 1 ∧ j = i
  · rw [if_pos h1, if_pos h1]
  · rw [if_neg h1, if_neg h1]
    by_cases h2 : k = 2 ∧ j = i
    · rw [if_pos h2, if_pos h2]
    · rw [if_neg h2, if_neg h2, if_neg h1, if_neg h2]
set_option maxHeartbeats 4000000 in
set_option maxRecDepth 100000 in
theorem mJ_add3 (l : Launch) (hP : PI E.1 L ct ad H0) (hLb : ∀ q, q ∈ L → bA E q) (i : Nat) (hi : i < 3) {n p : Nat} {md : Int32} (he : ct 1 i = some (.inr (1, [.int md, .ref (ad 2 i), .int (nI n)]))) (he2 : 0 < p → ct 2 i = some (.inl (E.2 3, p, .inr (.inr (.inr (.inr (lsf n (ad (3 + 2 * i))))))))) (hnp : n ≤ p) (hn : n < 60) (hp : p ≤ 100) (hp0 : p = 0 → ad 2 i = E.2 9) (h80 : ct 8 0 = none) {ci N : Nat} {T : u_T} {C : String} (hc : vwCl[ci]? = some (C, T, N)) (hca : CO C) (hob : ∀ j, j ≤ n → ∃ fs, ct (3 + 2 * i) j = some (.inr (ci, fs))) : MuV l yJx4a65c_add_72be8 cJx4a65c_add_72be8 4 (rmk 5 1 200 150) [.ref (ad 1 i), .ref (ad (3 + 2 * i) n), .ref (ad 2 i), .int (nI n)] E H0 (adB H0.size E L ct ad i n md) (cA L H0) 1 200 := by
  refine ro_of (by decide) (Nat.le_of_ble_eq_true rfl) ?_
  intro pr e s m below meth co ls hx hb hr hml hown hlocks hnm hC hU hl
  have hl : lv_has ls 4 [(0, .ref (ad 1 i)), (1, .ref (ad (3 + 2 * i) n)), (2, .ref (ad 2 i)), (3, .int (nI n))] := hl
  have hS : va_S (cA L H0) s.heap H0 [] := by rw [hU]; exact va_S.rf
  have hA : ∀ q, q ∈ L → cA L H0 q := fun q h => Or.inl h
  have hAb : ∀ q, cA L H0 q → bA E q := fun q h => h.elim (hLb q) (fun z => Nat.le_trans hC.2.2.2.1 (by rw [hU]; exact z))
  have hG : Ge E s s.heap := hC.2.2.1.2.2.2.2.1
  obtain ⟨fn, hfn⟩ := hob n (Nat.le_refl n)
  have hel : ∀ j y, lsf n (ad (3 + 2 * i)) j = some y → ∃ k' i' fs, k' < 8 ∧ y = ad k' i' ∧ ct k' i' = some (.inr (ci, fs)) := fun j y hy => by
    unfold lsf at hy
    by_cases z : j < n
    · rw [if_pos z] at hy
      obtain ⟨fs, hfs⟩ := hob j (by omega)
      exact ⟨3 + 2 * i, j, fs, by omega, (Option.some.inj hy).symm, hfs⟩
    · rw [if_neg z] at hy; cases hy
  have tail : ∀ (L1 : List Nat) (ct1 : Nat → Nat → Option va_E) (ad1 : Nat → Nat → Nat) (p1 : Nat) (f1 : Nat → Option Nat) (H : Heap) (locs : List Loc) (ls : Array Slot), PI E.1 L1 ct1 ad1 H → va_S (cA L H0) s.heap H locs → (∀ q, q ∈ L1 → cA L H0 q) → ct1 1 i = some (.inr (1, [.int md, .ref (ad1 2 i), .int (nI n)])) → ct1 2 i = some (.inl (E.2 3, p1, .inr (.inr (.inr (.inr f1))))) → n < p1 → p1 ≤ 200 → ct1 (3 + 2 * i) n = some (.inr (ci, fn)) → lv_has ls 4 [(0, .ref (ad1 1 i)), (1, .ref (ad1 (3 + 2 * i) n)), (2, .ref (ad1 2 i)), (3, .int (nI n))] → (∀ H1, PI E.1 L1 (ctu (ctu ct1 2 i (.inl (E.2 3, p1, .inr (.inr (.inr (.inr (va_up f1 n (some (ad1 (3 + 2 * i) n))))))))) 1 i (.inr (1, [.int md, .ref (ad1 2 i), .int (nI (n + 1))]))) ad1 H1 → adB H0.size E L ct ad i n md H1) → W pr l e (rmk 5 1 200 150) s m (([.ref (ad 1 i), .ref (ad (3 + 2 * i) n), .ref (ad 2 i), .int (nI n)] : List Value).toArray) below meth co H locs 1 200 (MQ below (QvM (adB H0.size E L ct ad i n md) (cA L H0)) (([.ref (ad 1 i), .ref (ad (3 + 2 * i) n), .ref (ad 2 i), .int (nI n)] : List Value).toArray) s 1 200 (cA L H0)) (F0 m 11 ls []) := by
    intro L1 ct1 ad1 p1 f1 H locs ls hP hS hA he he2 h1 h2 hfn hl fin
    refine lv_aload_n hx hb dJx4a65c_add_72be8_11 rfl (lv_at hl 2 rfl) ?_
    refine lv_iload_n hx hb dJx4a65c_add_72be8_12 rfl (lv_at hl 3 rfl) ?_
    refine lv_aload_n hx hb dJx4a65c_add_72be8_13 rfl (lv_at hl 1 rfl) ?_
    refine pi_rastO hx hb hC hP hS hA 2 i he2 (3 + 2 * i) n hfn hc hca (j := n) h1 (by omega) dJx4a65c_add_72be8_14 (fun H locs hP hS => ?_)
    refine lv_aload_n hx hb dJx4a65c_add_72be8_15 rfl (lv_at hl 0 rfl) ?_
    refine lv_iload_n hx hb dJx4a65c_add_72be8_16 rfl (lv_at hl 3 rfl) ?_
    refine lv_iconstN hx hb 1 dJx4a65c_add_72be8_17 (by decide) ?_
    refine lv_iaddN hx hb dJx4a65c_add_72be8_18 ?_
    refine pi_put hx hb hC hown hP hS hA fP_Jx4a65c_48 1 i ((ctu_n (by omega)).trans he) (v := .int (nI (n + 1))) rfl rfl (Nat.le_of_ble_eq_true rfl) dJx4a65c_add_72be8_19 (fun H locs hP hS => ?_)
    exact mu_vret hx hb hr hlocks hS (fin H hP) dJx4a65c_add_72be8_22
  refine lv_iload_n hx hb dJx4a65c_add_72be8_0 rfl (lv_at hl 3 rfl) ?_
  refine lv_aload_n hx hb dJx4a65c_add_72be8_1 rfl (lv_at hl 2 rfl) ?_
  have ret : ∀ (rest : List Value), W pr l e (rmk 5 1 200 150) s m (([.ref (ad 1 i), .ref (ad (3 + 2 * i) n), .ref (ad 2 i), .int (nI n)] : List Value).toArray) below meth co H0 [] 0 0 (MQ below (QvM (adB H0.size E L ct ad i n md) (cA L H0)) (([.ref (ad 1 i), .ref (ad (3 + 2 * i) n), .ref (ad 2 i), .int (nI n)] : List Value).toArray) s 1 200 (cA L H0)) (F0 m 3 ls (.int (nI p) :: rest)) → W pr l e (rmk 5 1 200 150) s m (([.ref (ad 1 i), .ref (ad (3 + 2 * i) n), .ref (ad 2 i), .int (nI n)] : List Value).toArray) below meth co H0 [] 0 0 (MQ below (QvM (adB H0.size E L ct ad i n md) (cA L H0)) (([.ref (ad 1 i), .ref (ad (3 + 2 * i) n), .ref (ad 2 i), .int (nI n)] : List Value).toArray) s 1 200 (cA L H0)) (F0 m 2 ls (.ref (ad 2 i) :: rest)) := by
    intro rest kk
    by_cases z : p = 0
    · subst z
      rw [hp0 rfl] at *
      exact va_tlen (v := nI 0) hx hb (hG.2.narrow hAb) hS rfl dJx4a65c_add_72be8_2 kk
    · exact pi_alen (n := p) hx hb hC hP 2 i 2 rfl (he2 (by omega)) dJx4a65c_add_72be8_2 kk
  refine ret _ ?_
  refine lv_icmpN_ne (tgt := 11) hx hb dJx4a65c_add_72be8_3 (by decide) (by omega) (by omega) (fun z => ?_) (fun z => ?_)
  · refine W.widen (k := 1) (n := 200) (by omega) (by omega) ?_
    refine tail L ct ad p _ H0 [] ls hP hS hA he (he2 (by omega)) (by omega) (by omega) hfn hl (fun H1 h => ⟨L, ad, p, ?_, fun _ _ _ => rfl, fun q h => Or.inl h, fun q h => h, by omega, hp⟩)
    rw [lsf_up] at h
    exact h
  · subst z
    refine lv_aload_n hx hb dJx4a65c_add_72be8_6 rfl (lv_at hl 0 rfl) ?_
    refine mu_VR (As := []) (h0 := ad 1 i) (rest := []) hx hb hml hown hC hS hAb (mJ_grow0 l hP hLb i he he2 (by omega) hp0 h80 hc hca hel) (fun _ h => h) kV_Jx4a65c_129 ⟨rfl, rfl⟩ ⟨Nat.le_of_ble_eq_true rfl, Nat.le_of_ble_eq_true rfl⟩ (hP.recv hC he rfl) rfl hl (Nat.le_of_ble_eq_true rfl) ⟨Nat.le_of_ble_eq_true rfl, Nat.le_of_ble_eq_true rfl⟩ dJx4a65c_add_72be8_7 (fun a H locs hB hS _ _ => ?_)
    obtain ⟨hsz, hq, hP1⟩ := hB
    have g1 : gwP n ≤ 100 ∧ n < gwP n := by unfold gwP; split <;> omega
    refine lv_astore_n (lv' := [(2, .ref a), (0, .ref (ad 1 i)), (1, .ref (ad (3 + 2 * i) n)), (3, .int (nI n))]) hx hb dJx4a65c_add_72be8_10 rfl hl (by decide) rfl (fun ls hl => ?_)
    have hA1 : ∀ z, z ∈ L ++ [a] → cA L H0 z := fun z h => (List.mem_append.mp h).elim Or.inl (fun h => by rw [List.mem_singleton.mp h]; exact Or.inr hsz)
    have u1 : up2 ad 2 i a 1 i = ad 1 i := if_neg (by omega)
    have u2 : up2 ad 2 i a (3 + 2 * i) n = ad (3 + 2 * i) n := if_neg (by omega)
    have u3 : up2 ad 2 i a 2 i = a := if_pos ⟨rfl, rfl⟩
    have hl2 := lv_sub (l' := [(0, .ref (ad 1 i)), (1, .ref (ad (3 + 2 * i) n)), (2, .ref a), (3, .int (nI n))]) hl [1, 2, 0, 3] rfl
    refine tail (L ++ [a]) _ (up2 ad 2 i a) (gwP n) _ H locs ls hP1 hS hA1 (by rw [u3]; exact ctu_self) ((ctu_n (by omega)).trans ctu_self) g1.2 (by omega) ((ctu_n (by omega)).trans ((ctu_n (by omega)).trans hfn)) (by rw [u1, u2, u3]; exact hl2) (fun H1 h => ⟨L ++ [a], up2 ad 2 i a, gwP n, ?_, fun k j z => if_neg z, fun q h => (List.mem_append.mp h).elim Or.inl (fun h => by rw [List.mem_singleton.mp h]; exact Or.inr hsz), fun q h => List.mem_append_left _ h, g1.2, g1.1⟩)
    rw [u2, lsf_cp, lsf_up] at h
    exact h.ext ctu4
end ADD
