/-! new cells in the picture -/
theorem ra_eq {D : va_G} {cl : List vw_C} {tys : List (ClassId × FieldType)} {s : State} {cA cB : ClassId} {ty : FieldType} (hK : va_K D cl tys s) (hK2 : va_K D cl (tys ++ [(cA, ty)]) s) (t : Nat) (ht : tys[t]? = some (cB, ty)) : cA = cB := by
  have a := (hK.2 t _ ht).2
  have b := (hK2.2 tys.length (cA, ty) (by simp)).2
  cases ty with
  | object C =>
    obtain ⟨_, _, _, _, _, h4⟩ := a
    obtain ⟨_, _, _, _, _, g4⟩ := b
    exact Option.some.inj (g4.symm.trans h4)
  | _ =>
    have h4 : s.vm.findClass _ = some cB := a
    have g4 : s.vm.findClass _ = some cA := b
    exact Option.some.inj (g4.symm.trans h4)
theorem PI.push {D : va_G} {L : List Nat} {ct : Nat → Nat → Option va_E} {ad : Nat → Nat → Nat} {H1 : Heap} {f : Nat → va_E} {A : Nat → Prop} {q k i : Nat} {e : va_E} (hP : va_P D vwCl (va_pl L f ++ [(q, e)]) H1) (hD : va_D A (va_pl L f ++ [(q, e)])) (hm : ∀ k i e, ct k i = some e → ad k i ∈ L ∧ f (ad k i) = e) (hi : ∀ k i k' i' e e', ct k i = some e → ct k' i' = some e' → ad k i = ad k' i' → k = k' ∧ i = i') : q ∉ L ∧ PI D (L ++ [q]) (ctu ct k i e) (up2 ad k i q) H1 := by
  have hq : q ∉ L := va_pl_fresh2 (A := A) (X := []) (e := e) (by rw [List.nil_append]; exact hD)
  rw [va_pl_push hq] at hP hD
  have key : ∀ k' i' x, ctu ct k i e k' i' = some x → (k' = k ∧ i' = i ∧ x = e ∧ up2 ad k i q k' i' = q) ∨ (¬ (k' = k ∧ i' = i) ∧ ct k' i' = some x ∧ up2 ad k i q k' i' = ad k' i') := by
    intro k' i' x hx
    unfold ctu at hx
    by_cases z : k' = k ∧ i' = i
    · rw [if_pos z] at hx
      exact Or.inl ⟨z.1, z.2, (Option.some.inj hx).symm, if_pos z⟩
    · rw [if_neg z] at hx
      exact Or.inr ⟨z, hx, if_neg z⟩
  refine ⟨hq, va_up f q e, hP, ⟨hD.1, fun n x hx => ?_⟩, fun k' i' x hx => ?_, fun k1 i1 k2 i2 x1 x2 h1 h2 h3 => ?_⟩
  · simp only [va_pl, List.getElem?_map] at hx
    cases h : (L ++ [q])[n]? with
    | none => rw [h] at hx; cases hx
    | some y =>
      rw [h] at hx
      have : (y, va_up f q e y) = x := Option.some.inj hx
      rw [← this]
      exact List.mem_of_getElem? h
  · rcases key k' i' x hx with ⟨z1, z2, z3, z4⟩ | ⟨z1, z2, z3⟩
    · rw [z4, z3]
      exact ⟨List.mem_append_right _ (List.mem_singleton.mpr rfl), va_up_self _ _ _⟩
    · rw [z3]
      obtain ⟨g1, g2⟩ := hm k' i' x z2
      exact ⟨List.mem_append_left _ g1, by rw [va_up_ne _ _ (fun w => hq (by rw [← w]; exact g1))]; exact g2⟩
  · rcases key k1 i1 x1 h1 with ⟨a1, a2, a3, a4⟩ | ⟨a1, a2, a3⟩ <;> rcases key k2 i2 x2 h2 with ⟨b1, b2, b3, b4⟩ | ⟨b1, b2, b3⟩
    · exact ⟨a1.trans b1.symm, a2.trans b2.symm⟩
    · rw [a4, b3] at h3
      exact absurd (hm k2 i2 x2 b2).1 (by rw [← h3]; exact hq)
    · rw [a3, b4] at h3
      exact absurd (hm k1 i1 x1 a2).1 (by rw [h3]; exact hq)
    · rw [a3, b3] at h3
      exact hi k1 i1 k2 i2 x1 x2 a2 b2 h3
theorem vaD_last {A : Nat → Prop} {ws : va_W} {q : Nat} {e : va_E} (h : va_D A (ws ++ [(q, e)])) : A q := h.2 ws.length (q, e) (by simp)
section NEW
variable {p : Program} {l : Launch} {e : Env} {R : Room} {s : State} {m : MethodId} {args : Array Value} {below : List Frame} {meth : Method} {c : Code} {H H0 : Heap} {locs : List Loc} {cells slots : Nat} {Q : State → Prop}
variable {cc : ByteArray} {pc : Nat} {ls : Array Slot} {rest : List Value} {E : En} {L : List Nat} {ct : Nat → Nat → Option va_E} {ad : Nat → Nat → Nat} {A : Nat → Prop}
/-- a new object, at (k, i) -/
theorem pi_newC (hx : p.tables.exec = Jvm.exec) (hb : c.code = cc) {own C : String} {T : u_T} {N ci index : Nat} (hC : Cs E s) (hown : s.vm.findClass own = some m.cls) (hX : PI E.1 L ct ad H) (hS : va_S A H0 H locs) (hA : ∀ q, q ∈ L → A q) (hN : ∀ q, H0.size ≤ q → A q) (hin : ∀ w ∈ u_ws C T N, w ∈ WG) (ty : Nat → FieldType) (hty : ∀ k, k < N → parseFieldDescriptor (T k).2.2.1 = some (ty k)) (hcl : .classLink own index C ∈ WG) (hinst : .instantiable C N ∈ WG) (hini : .initialized C ∈ WG) (hc : vwCl[ci]? = some (C, T, N)) {fs : List Value} (hfs : ∀ j, j < N → defaultValue (ty j) = vp_V fs j) (k i : Nat) (hcells : cells + 1 ≤ R.cells ∧ slots + N ≤ R.slots) (hdg : decode cc pc = .ok (.new index, 3))
    (kk : ∀ (q : Nat) (H1 : Heap), q ∉ L → A q → PI E.1 (L ++ [q]) (ctu ct k i (.inr (ci, fs))) (up2 ad k i q) H1 → va_S A H0 H1 locs → W p l e R s m args below meth c H1 locs (cells + 1) (slots + N) Q (F0 m (pc + 3) ls (.ref q :: rest))) : W p l e R s m args below meth c H locs cells slots Q (F0 m pc ls rest) := by
  have hts := hC.2.1.hts args
  obtain ⟨f, hP, hD, hm, hi⟩ := hX
  refine va_new (D := E.1) (cl := vwCl) (A := A) hx hb hts hin ty hty hown (hts _ hcl) (hts _ hinst) (hts _ hini) hC.1 hP (hD.weaken fun _ q _ h => hA q.1 h) hS hN hc hfs hcells.1 hcells.2 hdg fun q H1 hP1 hD1 hS1 => ?_
  obtain ⟨g1, g2⟩ := PI.push (k := k) (i := i) hP1 hD1 hm hi
  exact kk q H1 g1 (vaD_last hD1) g2 hS1
/-- a new array of references -/
theorem pi_newq (hx : p.tables.exec = Jvm.exec) (hb : c.code = cc) {own C : String} {index : Nat} (hC : Cs E s) (hown : s.vm.findClass own = some m.cls) (hX : PI E.1 L ct ad H) (hS : va_S A H0 H locs) (hA : ∀ q, q ∈ L → A q) (hN : ∀ q, H0.size ≤ q → A q) (hcl : .classLink own index C ∈ WG) (hover : va_AO C s) (t : Nat) {cA : ClassId} (ht : (tyl E)[t]? = some (cA, .object C)) (n : Nat) (hn : n < 1000) (k i : Nat) (hcells : cells + 1 ≤ R.cells ∧ slots + n ≤ R.slots) (hdg : decode cc pc = .ok (.anewarray index, 3))
    (kk : ∀ (q : Nat) (H1 : Heap), q ∉ L → A q → PI E.1 (L ++ [q]) (ctu ct k i (.inl (cA, n, .inr (.inr (.inr (.inr (fun _ => none))))))) (up2 ad k i q) H1 → va_S A H0 H1 locs → W p l e R s m args below meth c H1 locs (cells + 1) (slots + n) Q (F0 m (pc + 3) ls (.ref q :: rest))) : W p l e R s m args below meth c H locs cells slots Q (F0 m pc ls (.int (nI n) :: rest)) := by
  have hts := hC.2.1.hts args
  obtain ⟨f, hP, hD, hm, hi⟩ := hX
  refine va_newq (D := E.1) (cl := vwCl) (A := A) hx hb hown (hts _ hcl) hover hC.1 hP (hD.weaken fun _ q _ h => hA q.1 h) hS hN (nI_pos (by omega)) (nI_clamp (by omega)) (by omega) hcells.1 hcells.2 hdg fun q cB H1 hK1 hP1 hD1 hS1 => ?_
  have e1 : cB = cA := ra_eq hC.1 hK1 t ht
  subst e1
  obtain ⟨g1, g2⟩ := PI.push (k := k) (i := i) hP1 hD1 hm hi
  exact kk q H1 g1 (vaD_last hD1) g2 hS1
/-- a new array of ints -/
theorem pi_newi (hx : p.tables.exec = Jvm.exec) (hb : c.code = cc) (hC : Cs E s) (hX : PI E.1 L ct ad H) (hS : va_S A H0 H locs) (hA : ∀ q, q ∈ L → A q) (hN : ∀ q, H0.size ≤ q → A q) (harr : (Cond.arrayClass .int) ∈ WG) (n : Nat) (hn : n < 1000) (k i : Nat) (hcells : cells + 1 ≤ R.cells ∧ slots + n ≤ R.slots) (hdg : decode cc pc = .ok (.newarray .int, 2))
    (kk : ∀ (q : Nat) (H1 : Heap), q ∉ L → A q → PI E.1 (L ++ [q]) (ctu ct k i (.inl (E.2 1, n, .inl (fun _ => 0)))) (up2 ad k i q) H1 → va_S A H0 H1 locs → W p l e R s m args below meth c H1 locs (cells + 1) (slots + n) Q (F0 m (pc + 2) ls (.ref q :: rest))) : W p l e R s m args below meth c H locs cells slots Q (F0 m pc ls (.int (nI n) :: rest)) := by
  have hts := hC.2.1.hts args
  obtain ⟨f, hP, hD, hm, hi⟩ := hX
  refine va_newa (D := E.1) (cl := vwCl) (A := A) (atype := .int) (ty := .int) (N' := n) (a0 := (n, .inl (fun _ => 0))) hx hb (hts _ harr) rfl hC.1 hP (hD.weaken fun _ q _ h => hA q.1 h) hS hN (fun _ => rfl) (nI_pos (by omega)) (nI_clamp (by omega)) (by show n * 4 ≤ _; omega) hcells.1 hcells.2 hdg fun q cB H1 hK1 hP1 hD1 hS1 => ?_
  have e1 : cB = E.2 1 := ra_eq hC.1 hK1 0 rfl
  subst e1
  obtain ⟨g1, g2⟩ := PI.push (k := k) (i := i) hP1 hD1 hm hi
  exact kk q H1 g1 (vaD_last hD1) g2 hS1
end NEW
