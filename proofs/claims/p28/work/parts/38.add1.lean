/-! ArrayList.add, from outside -/
section AD1
variable {E : En} {L : List Nat} {ct : Nat → Nat → Option va_E} {ad : Nat → Nat → Nat} {H0 : Heap}
theorem pi_putM {p : Program} {l : Launch} {e : Env} {R : Room} {s : State} {m : MethodId} {args : Array Value} {below : List Frame} {meth : Method} {c : Code} {H : Heap} {locs : List Loc} {cells slots : Nat} {Q : State → Prop} {cc : ByteArray} {pc : Nat} {ls : Array Slot} {rest : List Value} {A : Nat → Prop} {own : String} {index : Nat} (hx : p.tables.exec = Jvm.exec) (hb : c.code = cc) (hC : Cs E s) (hown : s.vm.findClass own = some m.cls) (hX : PI E.1 L ct ad H) (hS : va_S A H0 H locs) (hA : ∀ q, q ∈ L → A q) (hl : .fieldLink own index "java/util/ArrayList" "modCount" "I" ∈ WG) (k i : Nat) {md x : Int32} {v2 v3 : Value} (he : ct k i = some (.inr (1, [.int md, v2, v3]))) (hdg : decode cc pc = .ok (.putfield index, 3))
    (kk : ∀ (H1 : Heap) (locs1 : List Loc), PI E.1 L (ctu ct k i (.inr (1, [.int x, v2, v3]))) ad H1 → va_S A H0 H1 locs1 → W p l e R s m args below meth c H1 locs1 cells slots Q (F0 m (pc + 3) ls rest)) : W p l e R s m args below meth c H locs cells slots Q (F0 m pc ls (.int x :: .ref (ad k i) :: rest)) := by
  obtain ⟨h1, ⟨ty0, h6⟩, h7, h8, h9⟩ := fP_Jx4a65c_48
  obtain ⟨f, hP, hD, hm, hi⟩ := hX
  obtain ⟨g1, g2⟩ := hm k i _ he
  obtain ⟨j, hj⟩ := va_pl_get (X := []) (f := f) g1
  rw [List.nil_append] at hj
  refine va_put (D := E.1) (cl := vwCl) (A := A) (C := RJx4a65c) (T := TJx4a65c) (N := 3) (ref := "java/util/ArrayList") hx hb (hC.2.1.hts args) wU_Jx4a65c ty0 h6 h7 hown hC.1 hP (hD.weaken fun _ q _ h => hA q.1 h) hS j (fs := [.int md, v2, v3]) (by rw [hj, g2]) rfl 0 (by decide) (hC.2.1.hts args _ hl) (fun x h9 => u_same (hC.2.1.hts args _ wSame) x h9) rfl (tyJx4a65c_ok 0 (by decide)) rfl rfl (Nat.le_of_ble_eq_true rfl) hdg fun H1 locs1 hP1 _ hS1 => ?_
  exact kk H1 locs1 (PI.setAt hD hm hi he hj hP1) hS1
set_option maxHeartbeats 4000000 in
set_option maxRecDepth 100000 in
theorem mJ_add1 (l : Launch) (hP : PI E.1 L ct ad H0) (hLb : ∀ q, q ∈ L → bA E q) (i : Nat) (hi : i < 3) {n p : Nat} {md : Int32} (he : ct 1 i = some (.inr (1, [.int md, .ref (ad 2 i), .int (nI n)]))) (he2 : 0 < p → ct 2 i = some (.inl (E.2 3, p, .inr (.inr (.inr (.inr (lsf n (ad (3 + 2 * i))))))))) (hnp : n ≤ p) (hn : n < 60) (hp : p ≤ 100) (hp0 : p = 0 → ad 2 i = E.2 9) (h80 : ct 8 0 = none) {ci N : Nat} {T : u_T} {C : String} (hc : vwCl[ci]? = some (C, T, N)) (hca : CO C) (hob : ∀ j, j ≤ n → ∃ fs, ct (3 + 2 * i) j = some (.inr (ci, fs))) : MuI l yJx4a65c_add_9ea2d cJx4a65c_add_9ea2d 2 .boolean (rmk 6 1 200 180) [.ref (ad 1 i), .ref (ad (3 + 2 * i) n)] E H0 (bI true) (adB H0.size E L ct ad i n (md + nI 1)) (cA L H0) 1 200 := by
  refine ro_of (by decide) (Nat.le_of_ble_eq_true rfl) ?_
  intro pr e s m below meth co ls hx hb hr hml hown hlocks hnm hC hU hl
  have hl : lv_has ls 2 [(0, .ref (ad 1 i)), (1, .ref (ad (3 + 2 * i) n))] := hl
  have hS : va_S (cA L H0) s.heap H0 [] := by rw [hU]; exact va_S.rf
  have hA : ∀ q, q ∈ L → cA L H0 q := fun q h => Or.inl h
  have hAb : ∀ q, cA L H0 q → bA E q := fun q h => h.elim (hLb q) (fun z => Nat.le_trans hC.2.2.2.1 (by rw [hU]; exact z))
  refine lv_aload_n hx hb dJx4a65c_add_9ea2d_0 rfl (lv_at hl 0 rfl) ?_
  refine lv_dup hx hb dJx4a65c_add_9ea2d_1 rfl ?_
  refine pi_getM hx hb hC hown hP wAlMod 1 i he dJx4a65c_add_9ea2d_2 ?_
  refine lv_iconstN hx hb 1 dJx4a65c_add_9ea2d_5 (by decide) ?_
  refine lv_iadd hx hb dJx4a65c_add_9ea2d_6 ?_
  refine pi_putM hx hb hC hown hP hS hA wAlMod 1 i he dJx4a65c_add_9ea2d_7 (fun H locs hP hS => ?_)
  have he1 : ctu ct 1 i (.inr (1, [.int (md + nI 1), .ref (ad 2 i), .int (nI n)])) 1 i = _ := ctu_self
  have hz : H0.size ≤ H.size := by rw [← hU]; exact hS.1
  refine lv_aload_n hx hb dJx4a65c_add_9ea2d_10 rfl (lv_at hl 0 rfl) ?_
  refine lv_aload_n hx hb dJx4a65c_add_9ea2d_11 rfl (lv_at hl 1 rfl) ?_
  refine lv_aload_n hx hb dJx4a65c_add_9ea2d_12 rfl (lv_at hl 0 rfl) ?_
  refine pi_get hx hb hC hown hP fL_Jx4a65c_9 1 i he1 (v := .ref (ad 2 i)) rfl dJx4a65c_add_9ea2d_13 ?_
  refine lv_aload_n hx hb dJx4a65c_add_9ea2d_16 rfl (lv_at hl 0 rfl) ?_
  refine pi_get hx hb hC hown hP fL_Jx4a65c_48 1 i he1 (v := .int (nI n)) rfl dJx4a65c_add_9ea2d_17 ?_
  refine mu_VV (As := [.ref (ad (3 + 2 * i) n), .ref (ad 2 i), .int (nI n)]) (h0 := ad 1 i) (rest := []) hx hb hml hown hC hS hAb (mJ_add3 l hP hLb i hi he1 (fun h => (ctu_n (by omega)).trans (he2 h)) hnp hn hp hp0 ((ctu_n (by omega)).trans h80) hc hca (fun j hj => by rw [ctu_n (by omega)]; exact hob j hj)) (fun q h => h.elim Or.inl (fun z => Or.inr (Nat.le_trans hz z))) kV_Jx4a65c_131 ⟨rfl, rfl⟩ ⟨Nat.le_of_ble_eq_true rfl, Nat.le_of_ble_eq_true rfl⟩ (hP.recv hC he1 rfl) rfl hl (Nat.le_of_ble_eq_true rfl) ⟨Nat.le_of_ble_eq_true rfl, Nat.le_of_ble_eq_true rfl⟩ dJx4a65c_add_9ea2d_20 (fun H2 locs2 hB hS _ _ => ?_)
  refine lv_iconstN hx hb 1 dJx4a65c_add_9ea2d_23 (by decide) ?_
  refine mu_zretB (b1 := true) hx hb hr hlocks hS ?_ (by decide) rfl dJx4a65c_add_9ea2d_24
  obtain ⟨L', ad', p', q1, q2, q3, q4, q5, q6⟩ := hB
  refine ⟨L', ad', p', q1.ext fun k j => ?_, q2, fun q h => (q3 q h).elim Or.inl (fun z => Or.inr (Nat.le_trans hz z)), q4, q5, q6⟩
  unfold ctu
  by_cases h1 : k = 1 ∧ j = i
  · rw [if_pos h1, if_pos h1]
  · rw [if_neg h1, if_neg h1]
    by_cases h2 : k = 2 ∧ j = i
    · rw [if_pos h2, if_pos h2]
    · rw [if_neg h2, if_neg h2, if_neg h1]
end AD1
