/-! ArrayList.add -/
section ADD
variable {E : En} {L : List Nat} {ct : Nat → Nat → Option va_E} {ad : Nat → Nat → Nat} {H0 : Heap}
set_option maxHeartbeats 4000000 in
set_option maxRecDepth 100000 in
theorem mJ_grow0 (l : Launch) (hP : PI E.1 L ct ad H0) (hLb : ∀ q, q ∈ L → bA E q) (i : Nat) {p : Nat} {md : Int32} {f : Nat → Option Nat} (he : ct 1 i = some (.inr (1, [.int md, .ref (ad 2 i), .int (nI p)]))) (he2 : 0 < p → ct 2 i = some (.inl (E.2 3, p, .inr (.inr (.inr (.inr f)))))) (hp : p < 128) (hp0 : p = 0 → ad 2 i = E.2 9) (h80 : ct 8 0 = none) {ci N : Nat} {T : u_T} {C : String} (hc : vwCl[ci]? = some (C, T, N)) (hca : .castable C "java/lang/Object" ∈ WG) (hel : ∀ j y, f j = some y → ∃ k' i' fs, k' < 8 ∧ y = ad k' i' ∧ ct k' i' = some (.inr (ci, fs))) : MuR l yJx4a65c_grow_d5877 cJx4a65c_grow_d5877 1 (.array (.object "java/lang/Object")) (rmk 4 1 200 120) [.ref (ad 1 i)] E H0 (gwB H0.size E L ct ad i p p md f) (cA L H0) 1 200 := by
  refine ro_of (by decide) (Nat.le_of_ble_eq_true rfl) ?_
  intro pr e s m below meth co ls hx hb hr hml hown hlocks hnm hC hU hl
  have hl : lv_has ls 1 [(0, .ref (ad 1 i))] := hl
  have hS : va_S (cA L H0) s.heap H0 [] := by rw [hU]; exact va_S.rf
  have hAb : ∀ q, cA L H0 q → bA E q := fun q h => h.elim (hLb q) (fun z => Nat.le_trans hC.2.2.2.1 (by rw [hU]; exact z))
  refine lv_aload_n hx hb dJx4a65c_grow_d5877_0 rfl (lv_at hl 0 rfl) ?_
  refine lv_aload_n hx hb dJx4a65c_grow_d5877_1 rfl (lv_at hl 0 rfl) ?_
  refine pi_get hx hb hC hown hP fL_Jx4a65c_48 1 i he (v := .int (nI p)) rfl dJx4a65c_grow_d5877_2 ?_
  refine lv_iconstN hx hb 1 dJx4a65c_grow_d5877_5 (by decide) ?_
  refine lv_iaddN hx hb dJx4a65c_grow_d5877_6 ?_
  refine mu_VR (As := [.int (nI (p + 1))]) (h0 := ad 1 i) (rest := []) hx hb hml hown hC hS hAb (mJ_grow1 l hP hLb i he he2 hp hp0 h80 hc hca hel) (fun _ h => h) kV_Jx4a65c_69 ⟨rfl, rfl⟩ ⟨Nat.le_of_ble_eq_true rfl, Nat.le_of_ble_eq_true rfl⟩ (hP.recv hC he rfl) rfl hl (Nat.le_of_ble_eq_true rfl) ⟨Nat.le_of_ble_eq_true rfl, Nat.le_of_ble_eq_true rfl⟩ dJx4a65c_grow_d5877_7 (fun a H locs hB hS _ _ => ?_)
  exact areA hx hb hr hlocks hS hB dJx4a65c_grow_d5877_10
/-- the list has one more -/
def adB (sz : Nat) (E : En) (L : List Nat) (ct : Nat → Nat → Option va_E) (ad : Nat → Nat → Nat) (i n : Nat) (md : Int32) : Heap → Prop := fun H1 => ∃ (L' : List Nat) (ad' : Nat → Nat → Nat) (p' : Nat), PI E.1 L' (ctu (ctu ct 2 i (.inl (E.2 3, p', .inr (.inr (.inr (.inr (lsf (n + 1) (ad (3 + 2 * i))))))))) 1 i (.inr (1, [.int md, .ref (ad' 2 i), .int (nI (n + 1))]))) ad' H1 ∧ (∀ k j, ¬ (k = 2 ∧ j = i) → ad' k j = ad k j) ∧ (∀ q, q ∈ L' → q ∈ L ∨ sz ≤ q) ∧ (∀ q, q ∈ L → q ∈ L') ∧ n + 1 ≤ p' ∧ p' ≤ 100
theorem lsf_up {n : Nat} {g : Nat → Nat} : va_up (lsf n g) n (some (g n)) = lsf (n + 1) g := by
  funext j
  unfold va_up lsf
  by_cases h : j = n
  · subst h; rw [if_pos rfl, if_pos (by omega)]
  · rw [if_neg h]
    by_cases z : j < n
    · rw [if_pos z, if_pos (by omega)]
    · rw [if_neg z, if_neg (by omega)]
theorem lsf_cp {n : Nat} {g : Nat → Nat} : va_cpy (lsf n g) (fun _ => none) 0 0 n = lsf n g := by
  funext j
  unfold va_cpy lsf
  by_cases z : j < n
  · rw [if_pos (by omega), show 0 + (j - 0) = j by omega, if_pos z]
  · rw [if_neg (by omega), if_neg z]
end ADD
