/-! words of the tables that stay true as the run goes on -/
def stn : Cond → Bool
  | .fieldLinkNest _ _ _ _ _ _ => true
  | .methodLinkNest _ _ _ _ => true
  | .castable _ _ => true
  | .declares _ => true
  | _ => false
def stb (w : Cond) : Bool := goodWord w || stn w
def Wd (U : State) : Prop := ∀ w ∈ lw_tbl, stb w = true → w.before #[] U = true
theorem stn_go {w : Cond} {s U : State} (hs : stn w = true) (hW : s.WarmedH U.vm) (h1 : w.before #[] s = true) : w.before #[] U = true := by
  unfold stn at hs
  split at hs
  · exact va_Nw.warmF hW h1
  · exact va_Nw.warmM hW h1
  · exact va_Nw.warmC hW h1
  · exact va_Nw.warmD hW h1
  · cases hs
theorem Wd.go {s U : State} (hW : s.WarmedH U.vm) (h : Wd s) : Wd U := by
  intro w hw hs
  have h1 := h w hw hs
  by_cases hg : goodWord w = true
  · exact word_at hW (good_of_word hg) h1
  · unfold stb at hs
    rcases (Bool.or_eq_true _ _).mp hs with q | q
    · exact absurd q hg
    · exact stn_go q hW h1
theorem Wd.at {s : State} (h : Wd s) {w : Cond} (hw : w ∈ lw_tbl) (hg : goodWord w = true) (args : Array Value) : w.before args s = true := word_at (State.WarmedH.refl s) (good_of_word hg) (h w hw (by unfold stb; rw [hg]; rfl))
def WG : List Cond := lw_tbl.filter goodWord
theorem Wd.hts {s : State} (h : Wd s) (args : Array Value) : ∀ w ∈ WG, w.before args s = true := fun w hw => by
  obtain ⟨h1, h2⟩ := List.mem_filter.mp hw
  exact h.at h1 h2 args
theorem wg_t (n : Nat) {w : Cond} (h : tables_1[n]? = some w) (hg : goodWord w = true) : w ∈ WG := List.mem_filter.mpr ⟨List.mem_append_right _ (List.mem_of_getElem? h), hg⟩
theorem wg_s (n : Nat) {w : Cond} (h : (k2_sels lw_privs)[n]? = some w) (hg : goodWord w = true) : w ∈ WG := List.mem_filter.mpr ⟨List.mem_append_left _ (List.mem_of_getElem? h), hg⟩
theorem wn_t (n : Nat) {w : Cond} (h : tables_1[n]? = some w) (hg : stb w = true) {s : State} (hW : Wd s) : va_Nw w s := hW w (List.mem_append_right _ (List.mem_of_getElem? h)) hg
theorem wg_good {w : Cond} (h : w ∈ WG) : (w.onTables && w.keeps) = true ∨ ∃ ty, w = .arrayClass ty := good_of_word (List.mem_filter.mp h).2
/-- a class's words, by the places of each -/
theorem wg_ps {ws : List Cond} (ps : List Nat) (hp : ps.map (fun i => tables_1[i]?) = ws.map some) (hg : ws.all goodWord = true) : ∀ w ∈ ws, w ∈ WG := by
  intro w hw
  have h1 : some w ∈ ps.map (fun i => tables_1[i]?) := by rw [hp]; exact List.mem_map.mpr ⟨w, hw, rfl⟩
  obtain ⟨i, -, hi⟩ := List.mem_map.mp h1
  exact wg_t i hi (List.all_eq_true.mp hg w hw)
/-! calls: their words -/
def KV (own : String) (idx : Nat) (C : String) (y : MethodName) (b : ByteArray) (n : Nat) (ret : Option FieldType) (np : Nat) : Prop :=
  GoodIn WG (wsV own idx C y [.code y b n ret]) ∧ (y.cls = C ∧ y.cls ≠ "java/lang/invoke/MethodHandle" ∧ y.cls ≠ "java/lang/invoke/VarHandle" ∧ (parseMethodDescriptor y.desc).map (fun d => d.parameters.length) = some np)
def KS (own : String) (idx : Nat) (y : MethodName) (b : ByteArray) (n : Nat) (ret : Option FieldType) (np : Nat) : Prop :=
  GoodIn WG (va_wsS own idx y [.code y b n ret]) ∧ (y.cls ≠ "java/lang/invoke/MethodHandle" ∧ y.cls ≠ "java/lang/invoke/VarHandle" ∧ (parseMethodDescriptor y.desc).map (fun d => d.parameters.length) = some np)
def KI (own : String) (idx : Nat) (y : MethodName) (b : ByteArray) (n : Nat) (np : Nat) : Prop :=
  GoodIn WG [.code y b n none] ∧ .initialized y.cls ∈ WG ∧ .methodLink own idx y ∈ WG ∧ .instanceMethod y ∈ WG ∧ y.name = "<init>" ∧ (y.cls ≠ "java/lang/invoke/MethodHandle" ∧ y.cls ≠ "java/lang/invoke/VarHandle" ∧ (parseMethodDescriptor y.desc).map (fun d => d.parameters.length) = some np)
theorem KV.of {own : String} {idx : Nat} {C : String} {y : MethodName} {b : ByteArray} {n : Nat} {ret : Option FieldType} {np : Nat} (h1 : .methodLink own idx y ∈ WG) (h2 : .instanceMethod y ∈ WG) (h3 : .selects C y y ∈ WG) (h4 : .initialized C ∈ WG) (h5 : .code y b n ret ∈ WG) (hd : y.cls = C ∧ y.cls ≠ "java/lang/invoke/MethodHandle" ∧ y.cls ≠ "java/lang/invoke/VarHandle" ∧ (parseMethodDescriptor y.desc).map (fun d => d.parameters.length) = some np) : KV own idx C y b n ret np := by
  refine ⟨fun w hw => ?_, hd⟩
  have h : w ∈ WG := by
    simp only [wsV, List.mem_append, List.mem_cons, List.not_mem_nil, or_false] at hw
    rcases hw with (rfl | rfl | rfl | rfl) | rfl <;> assumption
  exact ⟨h, wg_good h⟩
theorem KS.of {own : String} {idx : Nat} {y : MethodName} {b : ByteArray} {n : Nat} {ret : Option FieldType} {np : Nat} (h1 : .methodLink own idx y ∈ WG) (h2 : .static y ∈ WG) (h4 : .initialized y.cls ∈ WG) (h5 : .code y b n ret ∈ WG) (hd : y.cls ≠ "java/lang/invoke/MethodHandle" ∧ y.cls ≠ "java/lang/invoke/VarHandle" ∧ (parseMethodDescriptor y.desc).map (fun d => d.parameters.length) = some np) : KS own idx y b n ret np := by
  refine ⟨fun w hw => ?_, hd⟩
  have h : w ∈ WG := by
    simp only [va_wsS, List.mem_append, List.mem_cons, List.not_mem_nil, or_false] at hw
    rcases hw with (rfl | rfl | rfl) | rfl <;> assumption
  exact ⟨h, wg_good h⟩
theorem KI.of {own : String} {idx : Nat} {y : MethodName} {b : ByteArray} {n np : Nat} (h1 : .methodLink own idx y ∈ WG) (h2 : .instanceMethod y ∈ WG) (h4 : .initialized y.cls ∈ WG) (h5 : .code y b n none ∈ WG) (hn : y.name = "<init>") (hd : y.cls ≠ "java/lang/invoke/MethodHandle" ∧ y.cls ≠ "java/lang/invoke/VarHandle" ∧ (parseMethodDescriptor y.desc).map (fun d => d.parameters.length) = some np) : KI own idx y b n np := by
  refine ⟨fun w hw => ?_, h4, h1, h2, hn, hd⟩
  rw [List.mem_singleton.mp hw]
  exact ⟨h5, wg_good h5⟩
/-! the environment: E.1: classes and slots; E.2: 0 where the run's own cells begin; 1 .. 4 the classes of int[], Layer[], Object[], long[]; 5 .. 8 the tables; 9 the empty elementData; 10 the mirror; 20 + j the j-th text -/
abbrev En : Type := va_G × (Nat → Nat)
def tyl (E : En) : List (ClassId × FieldType) := [(E.2 1, .int), (E.2 2, .object "Wallcode$Layer"), (E.2 3, .object "java/lang/Object")]
def bA (E : En) : Nat → Prop := fun q => E.2 0 ≤ q
def wtf (j : Nat) : Int32 := if j = 0 then 1 else if j = 1 then 2 else if j = 2 then 4 else 7
def tkf (j : Nat) : Int32 := if j = 0 then 6 else if j = 1 then 20 else if j = 2 then 60 else 90
def Gt (E : En) (C n : String) (k : Nat) (f : Nat → Int32) (U : State) (H : Heap) : Prop := va_Z C n "[I" (.ref (E.2 k)) (bA E) U H ∧ va_T .int (E.2 k) 4 (fun j => .int (f j)) (bA E) U H
def Ge (E : En) (U : State) (H : Heap) : Prop := va_Z "java/util/ArrayList" "DEFAULTCAPACITY_EMPTY_ELEMENTDATA" "[Ljava/lang/Object;" (.ref (E.2 9)) (bA E) U H ∧ va_T (.object "java/lang/Object") (E.2 9) 0 (fun _ => .null) (bA E) U H
def Gx (E : En) (U : State) (H : Heap) : Prop := vx_Zq Bundle.tN "UNASSIGNED_STACK" Bundle.steD (bA E) U H ∧ vx_Zq Bundle.tN "SUPPRESSED_SENTINEL" Bundle.listD (bA E) U H
def Gs (E : En) (U : State) (H : Heap) : Prop := Gt E "Wallcode" "WEIGHTS" 5 wtf U H ∧ Gt E "Wallcode" "CELL_MINUTES" 6 tkf U H ∧ True ∧ True ∧ Ge E U H ∧ Gx E U H
theorem Gt.go {E : En} {C n : String} {k : Nat} {f : Nat → Int32} {u U : State} {H H1 : Heap} (hvm : u.vm.Alike U.vm) (hq : ∀ a : Nat, a < H.size → ¬ bA E a → H1[a]? = H[a]?) (h : Gt E C n k f u H) : Gt E C n k f U H1 := ⟨(h.1.moved hvm).kept hq, (h.2.moved hvm).kept hq⟩
theorem Gs.go {E : En} {u U : State} {H H1 : Heap} (hvm : u.vm.Alike U.vm) (hq : ∀ a : Nat, a < H.size → ¬ bA E a → H1[a]? = H[a]?) (h : Gs E u H) : Gs E U H1 :=
  ⟨h.1.go hvm hq, h.2.1.go hvm hq, trivial, trivial, ⟨(h.2.2.2.2.1.1.moved hvm).kept hq, (h.2.2.2.2.1.2.moved hvm).kept hq⟩, ⟨(h.2.2.2.2.2.1.moved hvm).kept hq, (h.2.2.2.2.2.2.moved hvm).kept hq⟩⟩
def strl : List (String × Nat × String) := [("Wallcode", 38, "a wall is not so"), ("Wallcode", 49, "there are 6 walls"), ("Wallcode", 61, "a hand is not so"), ("Wallcode", 63, "there are 8 hands"), ("Wallcode", 386, "there is no such wall"), ("Wallcode", 72, "a permit is not so"), ("Wallcode", 84, "a watch is not so"), ("Wallcode", 390, "there is no such layer"), ("Wallcode", 189, "the layer is not seen"), ("Wallcode", 388, "there is no such hand"), ("Wallcode", 211, "nights are not 1 to 30"), ("Wallcode", 213, "the night would be above 400"), ("Wallcode", 233, "what is not 0 to 6"), ("Wallcode", 268, "what is not 0 to 10"), ("Wallcode", 293, "what is not 0 to 13"), ("Wallcode", 322, "what is not 0 to 11"), ("Wallcode", 104, "nothing is painted so"), ("Wallcode", 337, "nights are not 0 to 30"), ("Wallcode", 237, "there is no such cell"), ("Wallcode", 152, "there are not coins enough"), ("Wallcode", 112, "too few minutes are left, or there are 60 layers")]
def Cs (E : En) (U : State) : Prop := va_K E.1 vwCl (tyl E) U ∧ Wd U ∧ Gs E U U.heap ∧ E.2 0 ≤ U.heap.size ∧ (∀ (j : Nat) (q : String × Nat × String), strl[j]? = some q → vk_R q.1 q.2.1 q.2.2 (E.2 (20 + j)) U) ∧ va_Mi "[Ljava/lang/Object;" (E.2 10) U ∧ va_AO "Wallcode$Layer" U ∧ va_AO "java/lang/Object" U ∧ True ∧ True
theorem Cs.go {E : En} {s U : State} {A : Nat → Prop} {H : Heap} {locs : List Loc} (h : Cs E s) (hW : s.WarmedH U.vm) (hU : U.heap = H) (hS : va_S A s.heap H locs) (hA : ∀ q, A q → bA E q) : Cs E U := by
  obtain ⟨h1, h2, h3, h4, h5, h6, h7, h8, h9, h10⟩ := h
  refine ⟨h1.moved hW.alike, h2.go hW, ?_, ?_, fun j q hj => (h5 j q hj).warm hW, h6.moved hW.alike, h7.moved hW.alike, h8.moved hW.alike, trivial, trivial⟩
  · refine h3.go hW.alike fun a ha hb => ?_
    rw [hU]
    exact hS.2.1 a ha fun q => hb (hA a q)
  · rw [hU]
    exact Nat.le_trans h4 hS.1
theorem Cs.calling {E : En} {U : State} (h : Cs E U) (g : JFrame) (mk : MethodId) (a : Array Value) : Cs E (U.calling g mk a) := by
  have hW : U.WarmedH (U.calling g mk a).vm := State.WarmedH.refl U
  exact h.go (A := fun _ => False) (H := U.heap) (locs := []) hW rfl va_S.rf (fun _ q => q.elim)
/-! a picture: cells by kind and number, at addresses L; ct says what each holds, ad where it lies -/
def PI (D : va_G) (L : List Nat) (ct : Nat → Nat → Option va_E) (ad : Nat → Nat → Nat) (H : Heap) : Prop :=
  ∃ f : Nat → va_E, va_P D vwCl (va_pl L f) H ∧ va_D (fun q => q ∈ L) (va_pl L f) ∧ (∀ k i e, ct k i = some e → ad k i ∈ L ∧ f (ad k i) = e) ∧ (∀ k i k' i' e e', ct k i = some e → ct k' i' = some e' → ad k i = ad k' i' → k = k' ∧ i = i')
def ctu (ct : Nat → Nat → Option va_E) (k i : Nat) (e : va_E) : Nat → Nat → Option va_E := fun k' i' => if k' = k ∧ i' = i then some e else ct k' i'
section PIS
variable {D : va_G} {L : List Nat} {ct : Nat → Nat → Option va_E} {ad : Nat → Nat → Nat} {H H1 : Heap}
theorem PI.one (h : PI D L ct ad H) {k i : Nat} {e : va_E} (hc : ct k i = some e) : va_P D vwCl [(ad k i, e)] H := by
  obtain ⟨f, hP, hD, hm, hi⟩ := h
  obtain ⟨h1, h2⟩ := hm k i e hc
  obtain ⟨n, hn⟩ := va_pl_get (X := []) (f := f) h1
  intro j q hj
  match j, hj with
  | 0, hj =>
    have e1 : (ad k i, e) = q := Option.some.inj hj
    rw [← e1, ← h2]
    exact hP n _ hn
  | j + 1, hj => simp at hj
theorem PI.lt (h : PI D L ct ad H) {q : Nat} (hq : q ∈ L) : q < H.size := by
  obtain ⟨f, hP, -⟩ := h
  obtain ⟨n, hn⟩ := va_pl_get (X := []) (f := f) hq
  exact (hP n _ hn).lt
theorem PI.own (h : PI D L ct ad H) {k i : Nat} {e : va_E} (hc : ct k i = some e) : ad k i ∈ L := by
  obtain ⟨f, hP, hD, hm, hi⟩ := h
  exact (hm k i e hc).1
theorem PI.kept (h : PI D L ct ad H) (hk : ∀ q, q < H.size → q ∈ L → H1[q]? = H[q]?) : PI D L ct ad H1 := by
  have hlt := fun q hq => h.lt (q := q) hq
  obtain ⟨f, hP, hD, hm, hi⟩ := h
  exact ⟨f, hP.kept fun k q hq => hk q.1 (hlt _ (hD.2 k q hq)) (hD.2 k q hq), hD, hm, hi⟩
theorem PI.ext {ct2 : Nat → Nat → Option va_E} (h : PI D L ct ad H) (e : ∀ k i, ct2 k i = ct k i) : PI D L ct2 ad H := by
  have : ct2 = ct := funext fun k => funext fun i => e k i
  rw [this]; exact h
/-- fewer cells, or other addresses of the same: what is still said is true -/
theorem PI.sub {ct2 : Nat → Nat → Option va_E} {ad2 : Nat → Nat → Nat} (h : PI D L ct ad H) (e : ∀ k i x, ct2 k i = some x → ct k i = some x ∧ ad2 k i = ad k i) : PI D L ct2 ad2 H := by
  obtain ⟨f, hP, hD, hm, hi⟩ := h
  refine ⟨f, hP, hD, fun k i x hx => ?_, fun k i k' i' x x' hx hx' hq => ?_⟩
  · obtain ⟨e1, e2⟩ := e k i x hx
    rw [e2]; exact hm k i x e1
  · obtain ⟨e1, e2⟩ := e k i x hx
    obtain ⟨e3, e4⟩ := e k' i' x' hx'
    exact hi k i k' i' x x' e1 e3 (by rw [← e2, ← e4]; exact hq)
theorem PI.setAt {f : Nat → va_E} {k i : Nat} {e0 e : va_E} {n : Nat} (hD : va_D (fun q => q ∈ L) (va_pl L f)) (hm : ∀ k i e, ct k i = some e → ad k i ∈ L ∧ f (ad k i) = e) (hi : ∀ k i k' i' e e', ct k i = some e → ct k' i' = some e' → ad k i = ad k' i' → k = k' ∧ i = i') (hc : ct k i = some e0) (hn : (va_pl L f)[n]? = some (ad k i, f (ad k i))) (hP : va_P D vwCl ((va_pl L f).set n (ad k i, e)) H1) : PI D L (ctu ct k i e) ad H1 := by
  have e1 := va_pl_set (X := []) (e := e) hD (hm k i e0 hc).1 hn
  rw [List.nil_append, List.nil_append] at e1
  rw [e1] at hP
  refine ⟨va_up f (ad k i) e, hP, ?_, fun k' i' x hx => ?_, fun k1 i1 k2 i2 x1 x2 h1 h2 hq => ?_⟩
  · rw [← e1]; exact hD.set hn
  · unfold ctu at hx
    by_cases c : k' = k ∧ i' = i
    · rw [if_pos c] at hx
      rw [c.1, c.2, ← Option.some.inj hx]
      exact ⟨(hm k i e0 hc).1, va_up_self _ _ _⟩
    · rw [if_neg c] at hx
      refine ⟨(hm k' i' x hx).1, ?_⟩
      rw [va_up_ne _ _ (fun q => c (hi k' i' k i x e0 hx hc q))]
      exact (hm k' i' x hx).2
  · have key : ∀ k' i' x, ctu ct k i e k' i' = some x → ∃ x', ct k' i' = some x' := fun k' i' x hx => by
      unfold ctu at hx
      by_cases c : k' = k ∧ i' = i
      · rw [c.1, c.2]; exact ⟨e0, hc⟩
      · rw [if_neg c] at hx; exact ⟨x, hx⟩
    obtain ⟨y1, g1⟩ := key _ _ _ h1
    obtain ⟨y2, g2⟩ := key _ _ _ h2
    exact hi k1 i1 k2 i2 y1 y2 g1 g2 hq
end PIS
