/-! before the loop -/
theorem MuI.cast {l : Launch} {y : MethodName} {b : ByteArray} {n : Nat} {ret : FieldType} {rm : Room} {av : List Value} {E : En} {H : Heap} {v w : Int32} {B : Heap → Prop} {A1 : Nat → Prop} {mc ms : Nat} (e : v = w) (h : MuI l y b n ret rm av E H v B A1 mc ms) : MuI l y b n ret rm av E H w B A1 mc ms := e ▸ h
section CAS
variable {p : Program} {l : Launch} {e : Env} {s : State} {m : MethodId} {below : List Frame} {meth : Method} {co : Code} {bb Ln : Nat} {xs : Nat → Int32} {E : En} {Q : State → Prop}
set_option maxHeartbeats 4000000 in
set_option maxRecDepth 100000 in
theorem law_pre (C : LC p l s m co E bb Ln xs) {x : Nat} {H : Heap} {locs : List Loc} (hW : CW E x c0S [] H) (hS : va_S (bA E) s.heap H locs) {cells slots : Nat} (hcs : cells ≤ 10 ∧ slots ≤ 40) (kk : ∀ (H1 : Heap) (locs1 : List Loc) (cy : Cy) (aw af hs : Nat) (g : Nat → Int32) (ls1 : Array Slot) (cells slots : Nat), CW E x cy [aw, af] H1 → iA E aw 3 g H1 → iA E af hs (fun _ => nI 0) H1 → aw ≠ af → bA E aw → bA E af → GI cy g hs (fun _ => nI 0) 0 → 3 ≤ hs → va_S (bA E) s.heap H1 locs1 → cells ≤ 100 ∧ slots ≤ 10000 → lv_has ls1 22 [(0, .ref bb), (1, .ref x), (2, .ref aw), (3, .int (nI hs)), (4, .ref af), (5, .int (nI 0))] → W p l e room_1 s m #[Value.ref bb] below meth co H1 locs1 cells slots Q (F0 m 200 ls1 [])) {ls : Array Slot} (hl : lv_has ls 22 [(0, .ref bb), (1, .ref x)]) : W p l e room_1 s m #[Value.ref bb] below meth co H locs cells slots Q (F0 m 8 ls []) := by
  obtain ⟨hx, hb, hml, hown, hC, hXs, hbl, hE0, hst, hLn⟩ := C
  have hAb : ∀ q, bA E q → bA E q := fun _ h => h
  have hbA : ¬ bA E bb := fun z => absurd hbl (Nat.not_lt.mpr (by rw [← hE0]; exact z))
  refine lv_iconstN hx hb 3 dL_law_8 (by decide) ?_
  refine li_new (n := 3) hx hb hC hW hS (by omega) ⟨show cells + 1 ≤ (600074 : Nat) by omega, show slots + 3 ≤ (7301550 : Nat) by omega⟩ dL_law_9 (fun aw H hfq hfA_aw hI_aw hW hS hk => ?_)
  have hA_aw := hfA_aw.1
  refine lv_astore_n (lv' := [(2, .ref aw), (0, .ref bb), (1, .ref x)]) hx hb dL_law_11 rfl hl (by decide) rfl (fun ls hl => ?_)
  refine lv_iconstN hx hb 0 dL_law_12 (by decide) ?_
  refine lv_istore_n (lv' := [(3, .int (nI 0)), (2, .ref aw), (0, .ref bb), (1, .ref x)]) hx hb dL_law_13 rfl hl (by decide) rfl (fun ls hl => ?_)
  have lp14 : ∀ fu : Nat, ∀ (k : Nat) (cy : Cy) (gg : Nat → Int32), (k ≤ 3) → (PW cy gg k) → 3 - k < fu → ∀ (H : Heap) (locs : List Loc), CW E x cy (aw :: ([])) H → va_S (bA E) s.heap H locs → iA E aw 3 gg H → ∀ ls : Array Slot, lv_has ls 22 [(0, .ref bb), (1, .ref x), (2, .ref aw), (3, .int (nI k))] → W p l e room_1 s m #[Value.ref bb] below meth co H locs (cells + 1 + 3 * k) (slots + 3 + 226 * k) Q (F0 m 14 ls []) := by
    intro fu
    induction fu with
    | zero => intro k cy gg hk hP hfu; exact absurd hfu (Nat.not_lt_zero _)
    | succ fu ih14 =>
      intro k cy gg hk hP hfu H locs hW hS hI_aw ls hl
      have hp10 := hP.1.1
      have hp11 := hP.1.2
      refine lv_iload_n hx hb dL_law_14 rfl (lv_at hl 3 rfl) ?_
      refine lv_iconstN hx hb 3 dL_law_15 (by decide) ?_
      refine lv_icmpN_ge (tgt := 98) hx hb dL_law_16 (by decide) (by omega) (by omega) (fun c_16 => ?_) (fun c_16 => ?_)
      · skip
        refine lv_iconstN hx hb 3 dL_law_98 (by decide) ?_
        refine lv_aload_n hx hb dL_law_99 rfl (lv_at hl 0 rfl) ?_
        refine lv_iconstN hx hb 3 dL_law_100 (by decide) ?_
        refine lx_S (As := [.ref bb, .int (nI 3)]) (rest := [.int (nI 3)]) (v := clS Ln xs 3) hx hb hml hown hC hS hAb hXs hbl hbA (fun _ => mL_cell l bb Ln xs 3 (by omega) (by omega)) kS_L_12 ⟨rfl, rfl⟩ ⟨Nat.le_of_ble_eq_true rfl, Nat.le_of_ble_eq_true rfl⟩ rfl hl (Nat.le_of_ble_eq_true rfl) ⟨show cells + 1 + 3 * k ≤ (600074 : Nat) by omega, show slots + 3 + 226 * k ≤ (7301550 : Nat) by omega⟩ dL_law_101 ?_
        refine lv_bipushN hx hb 6 dL_law_104 (by decide) ?_
        refine ro_S (As := [.int (clS Ln xs 3), .int (nI 6)]) (rest := [.int (nI 3)]) (v := nI (blN (clS Ln xs 3) 6)) hx hb hml hown hC hS hAb (mL_below l (clS Ln xs 3) 6 (by first | assumption | omega) (by omega)) kS_L_18 ⟨rfl, rfl⟩ ⟨Nat.le_of_ble_eq_true rfl, Nat.le_of_ble_eq_true rfl⟩ rfl hl (Nat.le_of_ble_eq_true rfl) ⟨show cells + 1 + 3 * k ≤ (600074 : Nat) by omega, show slots + 3 + 226 * k ≤ (7301550 : Nat) by omega⟩ dL_law_106 ?_
        have hb_1 : blN (clS Ln xs 3) 6 < 6 := blN_lt (by first | assumption | omega)
        refine lv_iaddN hx hb dL_law_109 ?_
        refine lv_istore_n (lv' := [(3, .int (nI (3 + (blN (clS Ln xs 3) 6)))), (0, .ref bb), (1, .ref x), (2, .ref aw)]) hx hb dL_law_110 rfl hl (by decide) rfl (fun ls hl => ?_)
        refine lv_iconstN hx hb 0 dL_law_111 (by decide) ?_
        refine lv_istore (lv' := [(4, .int (nI 0)), (3, .int (nI (3 + (blN (clS Ln xs 3) 6)))), (0, .ref bb), (1, .ref x), (2, .ref aw)]) hx hb dL_law_112 hl (by decide) rfl (fun ls hl => ?_)
        have lp114 : ∀ fu : Nat, ∀ (k : Nat) (cy2 : Cy), (k ≤ 3 + blN (clS Ln xs 3) 6) → (PH cy2 gg k) → 3 + blN (clS Ln xs 3) 6 - k < fu → ∀ (H : Heap) (locs : List Loc), CW E x cy2 (aw :: ([])) H → va_S (bA E) s.heap H locs → iA E aw 3 gg H → ∀ ls : Array Slot, lv_has ls 22 [(0, .ref bb), (1, .ref x), (2, .ref aw), (3, .int (nI (3 + blN (clS Ln xs 3) 6))), (4, .int (nI k))] → W p l e room_1 s m #[Value.ref bb] below meth co H locs (cells + 10 + 3 * k) (slots + 700 + 226 * k) Q (F0 m 114 ls []) := by
          intro fu
          induction fu with
          | zero => intro k cy2 hk hP2 hfu; exact absurd hfu (Nat.not_lt_zero _)
          | succ fu ih114 =>
            intro k cy2 hk hP2 hfu H locs hW hS hI_aw ls hl
            have hq10 := hP2.2.1.1
            have hq11 := hP2.2.1.2
            refine lv_iload hx hb dL_law_114 (lv_at hl 4 rfl) ?_
            refine lv_iload_n hx hb dL_law_116 rfl (lv_at hl 3 rfl) ?_
            refine lv_icmpN_ge (tgt := 192) hx hb dL_law_117 (by decide) (by omega) (by omega) (fun c_117 => ?_) (fun c_117 => ?_)
            · skip
              refine lv_iload_n hx hb dL_law_192 rfl (lv_at hl 3 rfl) ?_
              refine li_new (n := (3 + blN (clS Ln xs 3) 6)) hx hb hC hW hS (by omega) ⟨show cells + 10 + 3 * k + 1 ≤ (600074 : Nat) by omega, show slots + 700 + 226 * k + (3 + blN (clS Ln xs 3) 6) ≤ (7301550 : Nat) by omega⟩ dL_law_193 (fun af H hfq hfA_af hI_af hW hS hk => ?_)
              have hne_aw_af : aw ≠ af := by have h9 := hI_aw.lt; omega
              have hI_aw := hI_aw.kept (hk aw hI_aw.lt)
              have hA_af := hfA_af.1
              refine lv_astore (lv' := [(4, .ref af), (0, .ref bb), (1, .ref x), (2, .ref aw), (3, .int (nI (3 + blN (clS Ln xs 3) 6)))]) hx hb dL_law_195 hl (by decide) rfl (fun ls hl => ?_)
              refine lv_iconstN hx hb 0 dL_law_197 (by decide) ?_
              refine lv_istore (lv' := [(5, .int (nI 0)), (4, .ref af), (0, .ref bb), (1, .ref x), (2, .ref aw), (3, .int (nI (3 + blN (clS Ln xs 3) 6)))]) hx hb dL_law_198 hl (by decide) rfl (fun ls hl => ?_)
              have hW := hW.less (Ks2 := [aw, af]) (fun q h => by simp only [List.mem_cons, List.not_mem_nil, or_false] at h ⊢; exact h.symm)
              exact kk H locs cy2 aw af (3 + blN (clS Ln xs 3) 6) gg _ _ _ hW hI_aw hI_af hne_aw_af hA_aw hA_af (PH_GI (by have e : k = 3 + blN (clS Ln xs 3) 6 := (by omega); rw [e] at hP2; exact hP2)) (by omega) hS ⟨by omega, by omega⟩ (lv_sub hl [2, 3, 4, 5, 1, 0] rfl)
            · skip
              refine lv_aload_n hx hb dL_law_120 rfl (lv_at hl 1 rfl) ?_
              refine lv_aload_n hx hb dL_law_121 rfl (lv_at hl 0 rfl) ?_
              refine lv_iload hx hb dL_law_122 (lv_at hl 4 rfl) ?_
              refine lx_S (As := [.ref bb, .int (nI k)]) (rest := [.ref x]) (v := clS Ln xs k) hx hb hml hown hC hS hAb hXs hbl hbA (fun _ => mL_cell l bb Ln xs k (by omega) (by omega)) kS_L_12 ⟨rfl, rfl⟩ ⟨Nat.le_of_ble_eq_true rfl, Nat.le_of_ble_eq_true rfl⟩ rfl hl (Nat.le_of_ble_eq_true rfl) ⟨show cells + 10 + 3 * k ≤ (600074 : Nat) by omega, show slots + 700 + 226 * k ≤ (7301550 : Nat) by omega⟩ dL_law_124 ?_
              refine lv_iconstN hx hb 4 dL_law_127 (by decide) ?_
              refine ro_S (As := [.int (clS Ln xs k), .int (nI 4)]) (rest := [.ref x]) (v := nI (blN (clS Ln xs k) 4)) hx hb hml hown hC hS hAb (mL_below l (clS Ln xs k) 4 (by first | assumption | omega) (by omega)) kS_L_18 ⟨rfl, rfl⟩ ⟨Nat.le_of_ble_eq_true rfl, Nat.le_of_ble_eq_true rfl⟩ rfl hl (Nat.le_of_ble_eq_true rfl) ⟨show cells + 10 + 3 * k ≤ (600074 : Nat) by omega, show slots + 700 + 226 * k ≤ (7301550 : Nat) by omega⟩ dL_law_128 ?_
              have hb_2 : blN (clS Ln xs k) 4 < 4 := blN_lt (by first | assumption | omega)
              refine lv_iconstN hx hb 1 dL_law_131 (by decide) ?_
              refine lv_aload_n hx hb dL_law_132 rfl (lv_at hl 0 rfl) ?_
              refine lv_iload hx hb dL_law_133 (lv_at hl 4 rfl) ?_
              refine lv_iconstN hx hb 1 dL_law_135 (by decide) ?_
              refine lv_iaddN hx hb dL_law_136 ?_
              refine lx_S (As := [.ref bb, .int (nI (k + 1))]) (rest := [.int (nI 1), .int (nI (blN (clS Ln xs k) 4)), .ref x]) (v := clS Ln xs (k + 1)) hx hb hml hown hC hS hAb hXs hbl hbA (fun _ => mL_cell l bb Ln xs (k + 1) (by omega) (by omega)) kS_L_12 ⟨rfl, rfl⟩ ⟨Nat.le_of_ble_eq_true rfl, Nat.le_of_ble_eq_true rfl⟩ rfl hl (Nat.le_of_ble_eq_true rfl) ⟨show cells + 10 + 3 * k ≤ (600074 : Nat) by omega, show slots + 700 + 226 * k ≤ (7301550 : Nat) by omega⟩ dL_law_137 ?_
              refine lv_iconstN hx hb 2 dL_law_140 (by decide) ?_
              refine lv_ishr hx hb dL_law_141 ?_
              refine lv_bipushN hx hb 9 dL_law_142 (by decide) ?_
              refine ro_S (As := [.int ((clS Ln xs (k + 1)) >>> (nI 2 &&& 31)), .int (nI 9)]) (rest := [.int (nI 1), .int (nI (blN (clS Ln xs k) 4)), .ref x]) (v := nI (blN ((clS Ln xs (k + 1)) >>> (nI 2 &&& 31)) 9)) hx hb hml hown hC hS hAb (mL_below l ((clS Ln xs (k + 1)) >>> (nI 2 &&& 31)) 9 (by first | assumption | omega) (by omega)) kS_L_18 ⟨rfl, rfl⟩ ⟨Nat.le_of_ble_eq_true rfl, Nat.le_of_ble_eq_true rfl⟩ rfl hl (Nat.le_of_ble_eq_true rfl) ⟨show cells + 10 + 3 * k ≤ (600074 : Nat) by omega, show slots + 700 + 226 * k ≤ (7301550 : Nat) by omega⟩ dL_law_144 ?_
              have hb_3 : blN ((clS Ln xs (k + 1)) >>> (nI 2 &&& 31)) 9 < 9 := blN_lt (by first | assumption | omega)
              refine lv_iaddN hx hb dL_law_147 ?_
              refine lv_aload_n hx hb dL_law_148 rfl (lv_at hl 0 rfl) ?_
              refine lv_iload hx hb dL_law_149 (lv_at hl 4 rfl) ?_
              refine lv_iconstN hx hb 2 dL_law_151 (by decide) ?_
              refine lv_iaddN hx hb dL_law_152 ?_
              refine lx_S (As := [.ref bb, .int (nI (k + 2))]) (rest := [.int (nI (1 + (blN ((clS Ln xs (k + 1)) >>> (nI 2 &&& 31)) 9))), .int (nI (blN (clS Ln xs k) 4)), .ref x]) (v := clS Ln xs (k + 2)) hx hb hml hown hC hS hAb hXs hbl hbA (fun _ => mL_cell l bb Ln xs (k + 2) (by omega) (by omega)) kS_L_12 ⟨rfl, rfl⟩ ⟨Nat.le_of_ble_eq_true rfl, Nat.le_of_ble_eq_true rfl⟩ rfl hl (Nat.le_of_ble_eq_true rfl) ⟨show cells + 10 + 3 * k ≤ (600074 : Nat) by omega, show slots + 700 + 226 * k ≤ (7301550 : Nat) by omega⟩ dL_law_153 ?_
              refine lv_bipushN hx hb 10 dL_law_156 (by decide) ?_
              refine ro_S (As := [.int (clS Ln xs (k + 2)), .int (nI 10)]) (rest := [.int (nI (1 + (blN ((clS Ln xs (k + 1)) >>> (nI 2 &&& 31)) 9))), .int (nI (blN (clS Ln xs k) 4)), .ref x]) (v := nI (blN (clS Ln xs (k + 2)) 10)) hx hb hml hown hC hS hAb (mL_below l (clS Ln xs (k + 2)) 10 (by first | assumption | omega) (by omega)) kS_L_18 ⟨rfl, rfl⟩ ⟨Nat.le_of_ble_eq_true rfl, Nat.le_of_ble_eq_true rfl⟩ rfl hl (Nat.le_of_ble_eq_true rfl) ⟨show cells + 10 + 3 * k ≤ (600074 : Nat) by omega, show slots + 700 + 226 * k ≤ (7301550 : Nat) by omega⟩ dL_law_158 ?_
              have hb_4 : blN (clS Ln xs (k + 2)) 10 < 10 := blN_lt (by first | assumption | omega)
              refine lv_aload_n hx hb dL_law_161 rfl (lv_at hl 0 rfl) ?_
              refine lv_iload hx hb dL_law_162 (lv_at hl 4 rfl) ?_
              refine lv_iconstN hx hb 3 dL_law_164 (by decide) ?_
              refine lv_iaddN hx hb dL_law_165 ?_
              refine lx_S (As := [.ref bb, .int (nI (k + 3))]) (rest := [.int (nI (blN (clS Ln xs (k + 2)) 10)), .int (nI (1 + (blN ((clS Ln xs (k + 1)) >>> (nI 2 &&& 31)) 9))), .int (nI (blN (clS Ln xs k) 4)), .ref x]) (v := clS Ln xs (k + 3)) hx hb hml hown hC hS hAb hXs hbl hbA (fun _ => mL_cell l bb Ln xs (k + 3) (by omega) (by omega)) kS_L_12 ⟨rfl, rfl⟩ ⟨Nat.le_of_ble_eq_true rfl, Nat.le_of_ble_eq_true rfl⟩ rfl hl (Nat.le_of_ble_eq_true rfl) ⟨show cells + 10 + 3 * k ≤ (600074 : Nat) by omega, show slots + 700 + 226 * k ≤ (7301550 : Nat) by omega⟩ dL_law_166 ?_
              refine lv_iconstN hx hb 1 dL_law_169 (by decide) ?_
              refine lv_ishr hx hb dL_law_170 ?_
              refine lv_bipushN hx hb 10 dL_law_171 (by decide) ?_
              refine ro_S (As := [.int ((clS Ln xs (k + 3)) >>> (nI 1 &&& 31)), .int (nI 10)]) (rest := [.int (nI (blN (clS Ln xs (k + 2)) 10)), .int (nI (1 + (blN ((clS Ln xs (k + 1)) >>> (nI 2 &&& 31)) 9))), .int (nI (blN (clS Ln xs k) 4)), .ref x]) (v := nI (blN ((clS Ln xs (k + 3)) >>> (nI 1 &&& 31)) 10)) hx hb hml hown hC hS hAb (mL_below l ((clS Ln xs (k + 3)) >>> (nI 1 &&& 31)) 10 (by first | assumption | omega) (by omega)) kS_L_18 ⟨rfl, rfl⟩ ⟨Nat.le_of_ble_eq_true rfl, Nat.le_of_ble_eq_true rfl⟩ rfl hl (Nat.le_of_ble_eq_true rfl) ⟨show cells + 10 + 3 * k ≤ (600074 : Nat) by omega, show slots + 700 + 226 * k ≤ (7301550 : Nat) by omega⟩ dL_law_173 ?_
              have hb_5 : blN ((clS Ln xs (k + 3)) >>> (nI 1 &&& 31)) 10 < 10 := blN_lt (by first | assumption | omega)
              refine lu_M (rm := rmk 7 3 226 201) (mc := 3) (ms := 226) (c2 := lsC (mkH cy2 (1 + (blN ((clS Ln xs (k + 1)) >>> (nI 2 &&& 31)) 9)) (nI (blN (clS Ln xs k) 4)) (nI (blN (clS Ln xs (k + 2)) 10)) (nI (blN ((clS Ln xs (k + 3)) >>> (nI 1 &&& 31)) 10))) 1) (As := [.int (nI (blN (clS Ln xs k) 4)), .int (nI (1 + (blN ((clS Ln xs (k + 1)) >>> (nI 2 &&& 31)) 9))), .int (nI (blN (clS Ln xs (k + 2)) 10)), .int (nI (blN ((clS Ln xs (k + 3)) >>> (nI 1 &&& 31)) 10))]) (rest := []) (v := nI k) hx hb hml hown hC hS hAb (fun q h => h.1) hW (fun ly L ad hX => MuI.cast (by rw [hq10]) (mX3_hand_g l hX (1 + (blN ((clS Ln xs (k + 1)) >>> (nI 2 &&& 31)) 9)) (nI (blN (clS Ln xs k) 4)) (nI (blN (clS Ln xs (k + 2)) 10)) (nI (blN ((clS Ln xs (k + 3)) >>> (nI 1 &&& 31)) 10)) (isIn_1 (by omega) (by omega) (by decide)) (show 1 ≤ (1 + (blN ((clS Ln xs (k + 1)) >>> (nI 2 &&& 31)) 9)) by first | assumption | omega) (show (1 + (blN ((clS Ln xs (k + 1)) >>> (nI 2 &&& 31)) 9)) ≤ 9 by first | assumption | omega) (isIn_1 (by omega) (by omega) (by decide)) (isIn_1 (by omega) (by omega) (by decide)) (show cy2.R 10 1 < 8 by first | assumption | omega) (show cy2.R 10 1 = cy2.R 11 1 by first | assumption | omega))) kV_L_26 ⟨rfl, rfl⟩ ⟨Nat.le_of_ble_eq_true rfl, Nat.le_of_ble_eq_true rfl⟩ rfl hl (Nat.le_of_ble_eq_true rfl) ⟨show cells + 10 + 3 * k + 3 ≤ (600074 : Nat) by omega, show slots + 700 + 226 * k + 226 ≤ (7301550 : Nat) by omega⟩ dL_law_176 (fun H locs hW hS hz hk => ?_)
              have hI_aw := hI_aw.kept (hk aw (by simp))
              refine lv_iload hx hb dL_law_179 (lv_at hl 4 rfl) ?_
              refine lv_icmpN_eq (tgt := 186) hx hb dL_law_181 (by decide) (by omega) (by omega) (fun c_181 => ?_) (fun c_181 => ?_)
              · skip
                refine lv_iincN (v := 1) (lv' := [(4, .int (nI (k + 1))), (0, .ref bb), (1, .ref x), (2, .ref aw), (3, .int (nI (3 + blN (clS Ln xs 3) 6)))]) hx hb dL_law_186 hl (k := 4) rfl (by decide) (by decide) rfl (fun ls hl => ?_)
                refine lv_goto (tgt := 114) hx hb dL_law_189 (by decide) ?_
                refine W.widen (k := cells + 10 + 3 * (k + 1)) (n := slots + 700 + 226 * (k + 1)) (by omega) (by omega) ?_
                exact ih114 (k + 1) (lsC (mkH cy2 (1 + (blN ((clS Ln xs (k + 1)) >>> (nI 2 &&& 31)) 9)) (nI (blN (clS Ln xs k) 4)) (nI (blN (clS Ln xs (k + 2)) 10)) (nI (blN ((clS Ln xs (k + 3)) >>> (nI 1 &&& 31)) 10))) 1) (by omega) (PH_s hP2) (by omega) _ _ hW hS hI_aw _ (lv_sub hl [1, 2, 3, 4, 0] rfl)
              · skip
                exact absurd rfl c_181
        refine W.widen (k := cells + 10 + 3 * 0) (n := slots + 700 + 226 * 0) (by omega) (by omega) ?_
        exact lp114 (3 + blN (clS Ln xs 3) 6 - 0 + 1) 0 cy (Nat.zero_le _) (PW_e (by have e : k = 3 := (by omega); rw [e] at hP; exact hP)) (Nat.lt_succ_self _) _ _ hW hS hI_aw _ (lv_sub hl [2, 3, 4, 1, 0] rfl)
      · skip
        refine lv_aload_n hx hb dL_law_19 rfl (lv_at hl 0 rfl) ?_
        refine lv_iload_n hx hb dL_law_20 rfl (lv_at hl 3 rfl) ?_
        refine lx_S (As := [.ref bb, .int (nI k)]) (rest := []) (v := clS Ln xs k) hx hb hml hown hC hS hAb hXs hbl hbA (fun _ => mL_cell l bb Ln xs k (by omega) (by omega)) kS_L_12 ⟨rfl, rfl⟩ ⟨Nat.le_of_ble_eq_true rfl, Nat.le_of_ble_eq_true rfl⟩ rfl hl (Nat.le_of_ble_eq_true rfl) ⟨show cells + 1 + 3 * k ≤ (600074 : Nat) by omega, show slots + 3 + 226 * k ≤ (7301550 : Nat) by omega⟩ dL_law_21 ?_
        refine lv_istore (lv' := [(4, .int (clS Ln xs k)), (0, .ref bb), (1, .ref x), (2, .ref aw), (3, .int (nI k))]) hx hb dL_law_24 hl (by decide) rfl (fun ls hl => ?_)
        refine lv_aload_n hx hb dL_law_26 rfl (lv_at hl 3 rfl) ?_
        refine lv_iload_n hx hb dL_law_27 rfl (lv_at hl 4 rfl) ?_
        refine lv_iconstN hx hb 4 dL_law_28 (by decide) ?_
        refine lv_iload hx hb dL_law_29 (lv_at hl 0 rfl) ?_
        refine lv_bipushN hx hb 13 dL_law_31 (by decide) ?_
        refine ro_S (As := [.int (clS Ln xs k), .int (nI 13)]) (rest := [.int (nI 4), .int (nI k), .ref aw]) (v := nI (blN (clS Ln xs k) 13)) hx hb hml hown hC hS hAb (mL_below l (clS Ln xs k) 13 (by first | assumption | omega) (by omega)) kS_L_18 ⟨rfl, rfl⟩ ⟨Nat.le_of_ble_eq_true rfl, Nat.le_of_ble_eq_true rfl⟩ rfl hl (Nat.le_of_ble_eq_true rfl) ⟨show cells + 1 + 3 * k ≤ (600074 : Nat) by omega, show slots + 3 + 226 * k ≤ (7301550 : Nat) by omega⟩ dL_law_33 ?_
        have hb_6 : blN (clS Ln xs k) 13 < 13 := blN_lt (by first | assumption | omega)
        refine lv_iaddN hx hb dL_law_36 ?_
        refine li_st (v := nI (4 + (blN (clS Ln xs k) 13))) hx hb hC hI_aw hW hS hA_aw (by simp) (j := k) (by first | assumption | omega) (by omega) dL_law_37 (fun H locs hI_aw hW hS hz hk => ?_)
        refine lv_aload_n hx hb dL_law_38 rfl (lv_at hl 2 rfl) ?_
        refine lv_aload_n hx hb dL_law_39 rfl (lv_at hl 3 rfl) ?_
        refine lv_iload_n hx hb dL_law_40 rfl (lv_at hl 4 rfl) ?_
        refine li_ld hx hb hC hI_aw (j := k) (by first | assumption | omega) (by omega) dL_law_41 ?_
        rw [show (upd gg k (nI (4 + (blN (clS Ln xs k) 13)))) k = nI (4 + blN (clS Ln xs k) 13) from if_pos rfl]
        refine lv_iconstN hx hb 1 dL_law_42 (by decide) ?_
        refine lv_iload hx hb dL_law_43 (lv_at hl 0 rfl) ?_
        refine lv_iconstN hx hb 2 dL_law_45 (by decide) ?_
        refine lv_ishr hx hb dL_law_46 ?_
        refine lv_bipushN hx hb 9 dL_law_47 (by decide) ?_
        refine ro_S (As := [.int ((clS Ln xs k) >>> (nI 2 &&& 31)), .int (nI 9)]) (rest := [.int (nI 1), .int (nI (4 + blN (clS Ln xs k) 13)), .ref x]) (v := nI (blN ((clS Ln xs k) >>> (nI 2 &&& 31)) 9)) hx hb hml hown hC hS hAb (mL_below l ((clS Ln xs k) >>> (nI 2 &&& 31)) 9 (by first | assumption | omega) (by omega)) kS_L_18 ⟨rfl, rfl⟩ ⟨Nat.le_of_ble_eq_true rfl, Nat.le_of_ble_eq_true rfl⟩ rfl hl (Nat.le_of_ble_eq_true rfl) ⟨show cells + 1 + 3 * k ≤ (600074 : Nat) by omega, show slots + 3 + 226 * k ≤ (7301550 : Nat) by omega⟩ dL_law_49 ?_
        have hb_7 : blN ((clS Ln xs k) >>> (nI 2 &&& 31)) 9 < 9 := blN_lt (by first | assumption | omega)
        refine lv_iaddN hx hb dL_law_52 ?_
        refine lv_iload hx hb dL_law_53 (lv_at hl 0 rfl) ?_
        refine lv_iconstN hx hb 4 dL_law_55 (by decide) ?_
        refine ro_S (As := [.int (clS Ln xs k), .int (nI 4)]) (rest := [.int (nI (1 + (blN ((clS Ln xs k) >>> (nI 2 &&& 31)) 9))), .int (nI (4 + blN (clS Ln xs k) 13)), .ref x]) (v := nI (blN (clS Ln xs k) 4)) hx hb hml hown hC hS hAb (mL_below l (clS Ln xs k) 4 (by first | assumption | omega) (by omega)) kS_L_18 ⟨rfl, rfl⟩ ⟨Nat.le_of_ble_eq_true rfl, Nat.le_of_ble_eq_true rfl⟩ rfl hl (Nat.le_of_ble_eq_true rfl) ⟨show cells + 1 + 3 * k ≤ (600074 : Nat) by omega, show slots + 3 + 226 * k ≤ (7301550 : Nat) by omega⟩ dL_law_56 ?_
        have hb_8 : blN (clS Ln xs k) 4 < 4 := blN_lt (by first | assumption | omega)
        refine lv_iload hx hb dL_law_59 (lv_at hl 0 rfl) ?_
        refine lv_iconstN hx hb 3 dL_law_61 (by decide) ?_
        refine lv_ishr hx hb dL_law_62 ?_
        refine lv_iconstN hx hb 3 dL_law_63 (by decide) ?_
        refine ro_S (As := [.int ((clS Ln xs k) >>> (nI 3 &&& 31)), .int (nI 3)]) (rest := [.int (nI (blN (clS Ln xs k) 4)), .int (nI (1 + (blN ((clS Ln xs k) >>> (nI 2 &&& 31)) 9))), .int (nI (4 + blN (clS Ln xs k) 13)), .ref x]) (v := nI (blN ((clS Ln xs k) >>> (nI 3 &&& 31)) 3)) hx hb hml hown hC hS hAb (mL_below l ((clS Ln xs k) >>> (nI 3 &&& 31)) 3 (by first | assumption | omega) (by omega)) kS_L_18 ⟨rfl, rfl⟩ ⟨Nat.le_of_ble_eq_true rfl, Nat.le_of_ble_eq_true rfl⟩ rfl hl (Nat.le_of_ble_eq_true rfl) ⟨show cells + 1 + 3 * k ≤ (600074 : Nat) by omega, show slots + 3 + 226 * k ≤ (7301550 : Nat) by omega⟩ dL_law_64 ?_
        have hb_9 : blN ((clS Ln xs k) >>> (nI 3 &&& 31)) 3 < 3 := blN_lt (by first | assumption | omega)
        refine lv_ifN_ne (tgt := 82) hx hb dL_law_67 (by decide) (by omega) (fun c_67 => ?_) (fun c_67 => ?_)
        · skip
          refine lv_iconstN hx hb 0 dL_law_82 (by decide) ?_
          refine lu_M (rm := rmk 7 3 226 201) (mc := 3) (ms := 226) (c2 := lsC (mkW cy (4 + blN (clS Ln xs k) 13) 0 (nI (1 + (blN ((clS Ln xs k) >>> (nI 2 &&& 31)) 9))) (nI (blN (clS Ln xs k) 4))) 0) (As := [.int (nI (4 + blN (clS Ln xs k) 13)), .int (nI (1 + (blN ((clS Ln xs k) >>> (nI 2 &&& 31)) 9))), .int (nI (blN (clS Ln xs k) 4)), .int (nI 0)]) (rest := []) (v := nI k) hx hb hml hown hC hS hAb (fun q h => h.1) hW (fun ly L ad hX => MuI.cast (by rw [hp10]) (mX3_wall_g l hX (4 + blN (clS Ln xs k) 13) 0 (nI (1 + (blN ((clS Ln xs k) >>> (nI 2 &&& 31)) 9))) (nI (blN (clS Ln xs k) 4)) (show 4 ≤ (4 + blN (clS Ln xs k) 13) by first | assumption | omega) (show (4 + blN (clS Ln xs k) 13) ≤ 16 by first | assumption | omega) ⟨_, by omega, by omega, rfl⟩ (isIn_1 (by omega) (by omega) (by decide)) (isIn_1 (by omega) (by omega) (by decide)) (show 0 = 0 ∨ 2 ≤ 0 by first | assumption | omega) (show 0 ≤ 20 by first | assumption | omega) (show cy.R 10 0 < 6 by first | assumption | omega) (show cy.R 10 0 = cy.R 11 0 by first | assumption | omega))) kV_L_22 ⟨rfl, rfl⟩ ⟨Nat.le_of_ble_eq_true rfl, Nat.le_of_ble_eq_true rfl⟩ rfl hl (Nat.le_of_ble_eq_true rfl) ⟨show cells + 1 + 3 * k + 3 ≤ (600074 : Nat) by omega, show slots + 3 + 226 * k + 226 ≤ (7301550 : Nat) by omega⟩ dL_law_83 (fun H locs hW hS hz hk => ?_)
          have hI_aw := hI_aw.kept (hk aw (by simp))
          refine lv_iload_n hx hb dL_law_86 rfl (lv_at hl 4 rfl) ?_
          refine lv_icmpN_eq (tgt := 92) hx hb dL_law_87 (by decide) (by omega) (by omega) (fun c_87 => ?_) (fun c_87 => ?_)
          · skip
            refine lv_iincN (v := 1) (lv' := [(3, .int (nI (k + 1))), (4, .int (clS Ln xs k)), (0, .ref bb), (1, .ref x), (2, .ref aw)]) hx hb dL_law_92 hl (k := 4) rfl (by decide) (by decide) rfl (fun ls hl => ?_)
            refine lv_goto (tgt := 14) hx hb dL_law_95 (by decide) ?_
            refine W.widen (k := cells + 1 + 3 * (k + 1)) (n := slots + 3 + 226 * (k + 1)) (by omega) (by omega) ?_
            exact ih14 (k + 1) (lsC (mkW cy (4 + blN (clS Ln xs k) 13) 0 (nI (1 + (blN ((clS Ln xs k) >>> (nI 2 &&& 31)) 9))) (nI (blN (clS Ln xs k) 4))) 0) (upd gg k (nI (4 + (blN (clS Ln xs k) 13)))) (by omega) (PW_s hP) (by omega) _ _ hW hS hI_aw _ (lv_sub hl [2, 3, 4, 0] rfl)
          · skip
            exact absurd rfl c_87
        · skip
          refine lv_iconstN hx hb 3 dL_law_70 (by decide) ?_
          refine lv_iload hx hb dL_law_71 (lv_at hl 0 rfl) ?_
          refine lv_bipushN hx hb 9 dL_law_73 (by decide) ?_
          refine ro_S (As := [.int (clS Ln xs k), .int (nI 9)]) (rest := [.int (nI 3), .int (nI (blN (clS Ln xs k) 4)), .int (nI (1 + (blN ((clS Ln xs k) >>> (nI 2 &&& 31)) 9))), .int (nI (4 + blN (clS Ln xs k) 13)), .ref x]) (v := nI (blN (clS Ln xs k) 9)) hx hb hml hown hC hS hAb (mL_below l (clS Ln xs k) 9 (by first | assumption | omega) (by omega)) kS_L_18 ⟨rfl, rfl⟩ ⟨Nat.le_of_ble_eq_true rfl, Nat.le_of_ble_eq_true rfl⟩ rfl hl (Nat.le_of_ble_eq_true rfl) ⟨show cells + 1 + 3 * k ≤ (600074 : Nat) by omega, show slots + 3 + 226 * k ≤ (7301550 : Nat) by omega⟩ dL_law_75 ?_
          have hb_10 : blN (clS Ln xs k) 9 < 9 := blN_lt (by first | assumption | omega)
          refine lv_iaddN hx hb dL_law_78 ?_
          refine lv_goto (tgt := 83) hx hb dL_law_79 (by decide) ?_
          refine lu_M (rm := rmk 7 3 226 201) (mc := 3) (ms := 226) (c2 := lsC (mkW cy (4 + blN (clS Ln xs k) 13) (3 + (blN (clS Ln xs k) 9)) (nI (1 + (blN ((clS Ln xs k) >>> (nI 2 &&& 31)) 9))) (nI (blN (clS Ln xs k) 4))) 0) (As := [.int (nI (4 + blN (clS Ln xs k) 13)), .int (nI (1 + (blN ((clS Ln xs k) >>> (nI 2 &&& 31)) 9))), .int (nI (blN (clS Ln xs k) 4)), .int (nI (3 + (blN (clS Ln xs k) 9)))]) (rest := []) (v := nI k) hx hb hml hown hC hS hAb (fun q h => h.1) hW (fun ly L ad hX => MuI.cast (by rw [hp10]) (mX3_wall_g l hX (4 + blN (clS Ln xs k) 13) (3 + (blN (clS Ln xs k) 9)) (nI (1 + (blN ((clS Ln xs k) >>> (nI 2 &&& 31)) 9))) (nI (blN (clS Ln xs k) 4)) (show 4 ≤ (4 + blN (clS Ln xs k) 13) by first | assumption | omega) (show (4 + blN (clS Ln xs k) 13) ≤ 16 by first | assumption | omega) ⟨_, by omega, by omega, rfl⟩ (isIn_1 (by omega) (by omega) (by decide)) (isIn_1 (by omega) (by omega) (by decide)) (show (3 + (blN (clS Ln xs k) 9)) = 0 ∨ 2 ≤ (3 + (blN (clS Ln xs k) 9)) by first | assumption | omega) (show (3 + (blN (clS Ln xs k) 9)) ≤ 20 by first | assumption | omega) (show cy.R 10 0 < 6 by first | assumption | omega) (show cy.R 10 0 = cy.R 11 0 by first | assumption | omega))) kV_L_22 ⟨rfl, rfl⟩ ⟨Nat.le_of_ble_eq_true rfl, Nat.le_of_ble_eq_true rfl⟩ rfl hl (Nat.le_of_ble_eq_true rfl) ⟨show cells + 1 + 3 * k + 3 ≤ (600074 : Nat) by omega, show slots + 3 + 226 * k + 226 ≤ (7301550 : Nat) by omega⟩ dL_law_83 (fun H locs hW hS hz hk => ?_)
          have hI_aw := hI_aw.kept (hk aw (by simp))
          refine lv_iload_n hx hb dL_law_86 rfl (lv_at hl 4 rfl) ?_
          refine lv_icmpN_eq (tgt := 92) hx hb dL_law_87 (by decide) (by omega) (by omega) (fun c_87 => ?_) (fun c_87 => ?_)
          · skip
            refine lv_iincN (v := 1) (lv' := [(3, .int (nI (k + 1))), (4, .int (clS Ln xs k)), (0, .ref bb), (1, .ref x), (2, .ref aw)]) hx hb dL_law_92 hl (k := 4) rfl (by decide) (by decide) rfl (fun ls hl => ?_)
            refine lv_goto (tgt := 14) hx hb dL_law_95 (by decide) ?_
            refine W.widen (k := cells + 1 + 3 * (k + 1)) (n := slots + 3 + 226 * (k + 1)) (by omega) (by omega) ?_
            exact ih14 (k + 1) (lsC (mkW cy (4 + blN (clS Ln xs k) 13) (3 + (blN (clS Ln xs k) 9)) (nI (1 + (blN ((clS Ln xs k) >>> (nI 2 &&& 31)) 9))) (nI (blN (clS Ln xs k) 4))) 0) (upd gg k (nI (4 + (blN (clS Ln xs k) 13)))) (by omega) (PW_s hP) (by omega) _ _ hW hS hI_aw _ (lv_sub hl [2, 3, 4, 0] rfl)
          · skip
            exact absurd rfl c_87
  refine W.widen (k := cells + 1 + 3 * 0) (n := slots + 3 + 226 * 0) (by omega) (by omega) ?_
  exact lp14 (3 - 0 + 1) 0 c0S (fun _ => nI 0) (Nat.zero_le _) (PW_0) (Nat.lt_succ_self _) _ _ hW hS hI_aw _ (lv_sub hl [2, 3, 1, 0] rfl)
end CAS
