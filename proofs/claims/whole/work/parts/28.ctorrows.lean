/-! CONSTRUCTORS: a world that grows -/
def ti_A (h0 sz : Nat) : Nat → Prop := fun a => a = h0 ∨ sz ≤ a
def ti_Y (D : va_G) (A : Nat → Prop) (ws : va_W) (s : State) (H : Heap) (locs : List Loc) : Prop := va_P D vwCl ws H ∧ va_D A ws ∧ va_S A s.heap H locs
def ti_Pc (D : va_G) (cA : Nat → ClassId) (ws : va_W) (sz h0 : Nat) : Array Value → State → Prop := va_Pc [.ref h0] (fun U => U.heap.size = sz ∧ va_P D vwCl ws U.heap ∧ va_K D vwCl (ty_tys cA) U ∧ va_D (fun _ => True) ws ∧ ty_N U)
def ti_B (D : va_G) (cA : Nat → ClassId) (w : (Nat → Nat) → va_W) (sz h0 : Nat) (u : Nat → Nat) (t : State) : Prop := va_P D vwCl (w u) t.heap ∧ va_K D vwCl (ty_tys cA) t ∧ va_D (ti_A h0 sz) (w u)
def ti_Q (D : va_G) (cA : Nat → ClassId) (w : (Nat → Nat) → va_W) (sz h0 : Nat) : Array Value → State → Outcome → State → Prop := va_Qv (S := Nat → Nat) (fun _ => True) (ti_B D cA w sz h0) (ti_A h0 sz)
theorem ty_Kint {D : va_G} {cA : Nat → ClassId} {s : State} (hK : va_K D vwCl (ty_tys cA) s) {c : ClassId} (k : Nat) (ty : FieldType) (hk : (ty_tys cA)[k]? = some (cA k, ty)) (hn : ∀ C, ty ≠ .object C) (hK2 : va_K D vwCl (ty_tys cA ++ [(c, ty)]) s) : c = cA k := by
  have h1 := (hK.2 k _ hk).2
  have h2 := (hK2.2 3 (c, ty) rfl).2
  cases ty <;> first | (exact Option.some.inj (h2.symm.trans h1)) | (exact absurd rfl (hn _))
section TIR
variable {p : Program} {l : Launch} {e : Env} {R : Room} {s : State} {m : MethodId} {args : Array Value} {below : List Frame} {meth : Method} {c : Code} {H : Heap} {locs : List Loc} {cells slots : Nat} {Q : State → Prop}
variable {D : va_G} {cA : Nat → ClassId} {A : Nat → Prop} {ws : va_W} {cc : ByteArray} {nL : Nat} {ret : Option FieldType} {Ts : List Cond} {own : String} {pc : Nat} {ls : Array Slot} {rest : List Value}
theorem ti_obj (X : ty_X D cA p s m args meth c cc nL ret Ts own) {idx : Nat} {a : Nat} (h1 : Cond.methodLink own idx objectInit ∈ Ts) (h2 : Cond.instanceMethod objectInit ∈ Ts) (h3 : Cond.code objectInit ⟨#[0xb1]⟩ 1 none ∈ Ts) (hsize : ls.size = nL) (hd : decode cc pc = .ok (.invokespecial idx, 3)) (hf : 1 ≤ R.frames) (hlc : (rest.map fun v => v.category).sum + 12 ≤ R.locals)
    (kk : W p l e R s m args below meth c H locs cells slots Q (F0 m (pc + 3) ls rest)) : W p l e R s m args below meth c H locs cells slots Q (F0 m pc ls (.ref a :: rest)) := by
  obtain ⟨⟨hx, hb, hml, hown, hts⟩, hK, hr, hlo, hN⟩ := X
  refine W.objInit hx hb hown (hts _ h1) (hts _ h2) (hts _ h3) rfl (by rw [hml]; exact hsize) rfl hd hf ?_ (W.eq (g2 := F0 m (pc + 3) ls rest) rfl kk)
  show 2 * 0 + _ + 12 ≤ _
  omega
theorem ti_newi (X : ty_X D cA p s m args meth c cc nL ret Ts own) (hA : ∀ q, s.heap.size ≤ q → A q) (Y : ti_Y D A ws s H locs) (harr : Cond.arrayClass .int ∈ Ts) {n : Int32} {N : Nat} (hn : ¬ n < 0) (hN : n.toNatClampNeg = N) (hby : N * componentBytes .int ≤ 536870912) (hcells : cells + 1 ≤ R.cells) (hslots : slots + N ≤ R.slots) (hdg : decode cc pc = .ok (.newarray .int, 2))
    (kk : ∀ (q : Nat) (H1 : Heap), ti_Y D A (ws ++ [(q, .inl (cA 0, N, .inl (fun _ => 0)))]) s H1 locs → W p l e R s m args below meth c H1 locs (cells + 1) (slots + N) Q (F0 m (pc + 2) ls (.ref q :: rest))) : W p l e R s m args below meth c H locs cells slots Q (F0 m pc ls (.int n :: rest)) := by
  obtain ⟨⟨hx, hb, hml, hown, hts⟩, hK, hr, hlo, hN9⟩ := X
  refine va_newa (atype := .int) (ty := .int) hx hb (hts _ harr) rfl hK Y.1 Y.2.1 Y.2.2 hA (a0 := (N, .inl (fun _ => 0))) (fun _ => rfl) hn hN hby hcells hslots hdg (fun q c1 H1 hK1 hP hD hS => ?_)
  have e := ty_Kint hK 0 .int rfl (fun C h => by cases h) hK1
  subst e
  exact kk q H1 ⟨hP, hD, hS⟩
theorem ti_newz (X : ty_X D cA p s m args meth c cc nL ret Ts own) (hA : ∀ q, s.heap.size ≤ q → A q) (Y : ti_Y D A ws s H locs) (harr : Cond.arrayClass .boolean ∈ Ts) {n : Int32} {N : Nat} (hn : ¬ n < 0) (hN : n.toNatClampNeg = N) (hby : N * componentBytes .boolean ≤ 536870912) (hcells : cells + 1 ≤ R.cells) (hslots : slots + N ≤ R.slots) (hdg : decode cc pc = .ok (.newarray .boolean, 2))
    (kk : ∀ (q : Nat) (H1 : Heap), ti_Y D A (ws ++ [(q, .inl (cA 1, N, .inl (fun _ => 0)))]) s H1 locs → W p l e R s m args below meth c H1 locs (cells + 1) (slots + N) Q (F0 m (pc + 2) ls (.ref q :: rest))) : W p l e R s m args below meth c H locs cells slots Q (F0 m pc ls (.int n :: rest)) := by
  obtain ⟨⟨hx, hb, hml, hown, hts⟩, hK, hr, hlo, hN9⟩ := X
  refine va_newa (atype := .boolean) (ty := .boolean) hx hb (hts _ harr) rfl hK Y.1 Y.2.1 Y.2.2 hA (a0 := (N, .inl (fun _ => 0))) (fun _ => rfl) hn hN hby hcells hslots hdg (fun q c1 H1 hK1 hP hD hS => ?_)
  have e := ty_Kint hK 1 .boolean rfl (fun C h => by cases h) hK1
  subst e
  exact kk q H1 ⟨hP, hD, hS⟩
theorem ti_new (X : ty_X D cA p s m args meth c cc nL ret Ts own) (hA : ∀ q, s.heap.size ≤ q → A q) (Y : ti_Y D A ws s H locs) {C : String} {T : u_T} {N ci index : Nat} (ty0 : Nat → FieldType) (hty : ∀ k, k < N → parseFieldDescriptor (T k).2.2.1 = some (ty0 k)) (hin : ∀ w ∈ u_ws C T N, w ∈ Ts) (h1 : Cond.classLink own index C ∈ Ts) (h2 : Cond.instantiable C N ∈ Ts) (h3 : Cond.initialized C ∈ Ts) (hc : vwCl[ci]? = some (C, T, N)) {fs : List Value} (hfs : ∀ j, j < N → defaultValue (ty0 j) = vp_V fs j) (hcells : cells + 1 ≤ R.cells) (hslots : slots + N ≤ R.slots) (hdg : decode cc pc = .ok (.new index, 3))
    (kk : ∀ (q : Nat) (H1 : Heap), ti_Y D A (ws ++ [(q, .inr (ci, fs))]) s H1 locs → W p l e R s m args below meth c H1 locs (cells + 1) (slots + N) Q (F0 m (pc + 3) ls (.ref q :: rest))) : W p l e R s m args below meth c H locs cells slots Q (F0 m pc ls rest) := by
  obtain ⟨⟨hx, hb, hml, hown, hts⟩, hK, hr, hlo, hN9⟩ := X
  exact va_new hx hb hts hin ty0 hty hown (hts _ h1) (hts _ h2) (hts _ h3) hK Y.1 Y.2.1 Y.2.2 hA hc hfs hcells hslots hdg (fun q H1 hP hD hS => kk q H1 ⟨hP, hD, hS⟩)
theorem ti_putF (X : ty_X D cA p s m args meth c cc nL ret Ts own) (hin2 : meth.name = "<init>") (Y : ti_Y D A ws s H locs) {C : String} {T : u_T} {N ci index a v : Nat} (ty0 : Nat → FieldType) (hty : ∀ k, k < N → parseFieldDescriptor (T k).2.2.1 = some (ty0 k)) (hnm : ∀ a, a < N → ∀ b, b < N → a ≠ b → (T a).2.1 ≠ (T b).2.1) (hin : ∀ w ∈ u_ws C T N, w ∈ Ts) (q0 k : Nat) {fs : List Value} (he : ws[q0]? = some (a, .inr (ci, fs))) (hc : vwCl[ci]? = some (C, T, N)) (hk : k < N) {nm ds : String} (hT : (T k).1 = own ∧ (T k).2.1 = nm ∧ (T k).2.2.1 = ds ∧ (T k).2.2.2 = true) (hlink : Cond.fieldLink own index own nm ds ∈ Ts) {ty : FieldType} (hd : parseFieldDescriptor ds = some ty) (hn : narrow ty (.ref v) = .ref v) (hfit : fits ty (.ref v) = true) (hl : k < fs.length) (hdg : decode cc pc = .ok (.putfield index, 3))
    (kk : ∀ (H1 : Heap) (locs1 : List Loc), ti_Y D A (ws.set q0 (a, .inr (ci, fs.set k (.ref v)))) s H1 locs1 → W p l e R s m args below meth c H1 locs1 cells slots Q (F0 m (pc + 3) ls rest)) : W p l e R s m args below meth c H locs cells slots Q (F0 m pc ls (.ref v :: .ref a :: rest)) := by
  obtain ⟨⟨hx, hb, hml, hown, hts⟩, hK, hr, hlo, hN9⟩ := X
  obtain ⟨e1, e2, e3, e4⟩ := hT
  have hlink' : Cond.fieldLink own index (T k).1 (T k).2.1 (T k).2.2.1 ∈ Ts := by rw [e1, e2, e3]; exact hlink
  exact va_putF (ty := ty) hx hb hts hin ty0 hty hnm hown hK Y.1 Y.2.1 Y.2.2 q0 he hc k hk (hts _ hlink') (fun _ h => h) e4 hin2 e1 (by rw [e3]; exact hd) hn hfit hl hdg (fun H1 locs1 hP hD hS => kk H1 locs1 ⟨hP, hD, hS⟩)
theorem ti_put (X : ty_X D cA p s m args meth c cc nL ret Ts own) (Y : ti_Y D A ws s H locs) {C : String} {T : u_T} {N ci index a : Nat} {v : Int32} (ty0 : Nat → FieldType) (hty : ∀ k, k < N → parseFieldDescriptor (T k).2.2.1 = some (ty0 k)) (hnm : ∀ a, a < N → ∀ b, b < N → a ≠ b → (T a).2.1 ≠ (T b).2.1) (hin : ∀ w ∈ u_ws C T N, w ∈ Ts) (q0 k : Nat) {fs : List Value} (he : ws[q0]? = some (a, .inr (ci, fs))) (hc : vwCl[ci]? = some (C, T, N)) (hk : k < N) {nm : String} (hT : (T k).1 = own ∧ (T k).2.1 = nm ∧ (T k).2.2.1 = "I" ∧ (T k).2.2.2 = false) (hlink : Cond.fieldLink own index own nm "I" ∈ Ts) (hl : k < fs.length) (hdg : decode cc pc = .ok (.putfield index, 3))
    (kk : ∀ (H1 : Heap) (locs1 : List Loc), ti_Y D A (ws.set q0 (a, .inr (ci, fs.set k (.int v)))) s H1 locs1 → W p l e R s m args below meth c H1 locs1 cells slots Q (F0 m (pc + 3) ls rest)) : W p l e R s m args below meth c H locs cells slots Q (F0 m pc ls (.int v :: .ref a :: rest)) := by
  obtain ⟨⟨hx, hb, hml, hown, hts⟩, hK, hr, hlo, hN9⟩ := X
  obtain ⟨e1, e2, e3, e4⟩ := hT
  have hlink' : Cond.fieldLink own index (T k).1 (T k).2.1 (T k).2.2.1 ∈ Ts := by rw [e1, e2, e3]; exact hlink
  exact va_put (ty := .int) hx hb hts hin ty0 hty hnm hown hK Y.1 Y.2.1 Y.2.2 q0 he hc k hk (hts _ hlink') (fun _ h => h) e4 (by rw [e3]; decide +kernel) rfl rfl hl hdg (fun H1 locs1 hP hD hS => kk H1 locs1 ⟨hP, hD, hS⟩)
theorem ti_get (X : ty_X D cA p s m args meth c cc nL ret Ts own) (Y : ti_Y D A ws s H locs) {C : String} {T : u_T} {N ci index a : Nat} (hin : ∀ w ∈ u_ws C T N, w ∈ Ts) (q0 k : Nat) {fs : List Value} (he : ws[q0]? = some (a, .inr (ci, fs))) (hc : vwCl[ci]? = some (C, T, N)) (hk : k < N) {nm ds : String} (hT : (T k).1 = own ∧ (T k).2.1 = nm ∧ (T k).2.2.1 = ds) (hlink : Cond.fieldLink own index own nm ds ∈ Ts) {v : Value} (hv : fs[k]? = some v) (hdg : decode cc pc = .ok (.getfield index, 3))
    (kk : W p l e R s m args below meth c H locs cells slots Q (F0 m (pc + 3) ls (v :: rest))) : W p l e R s m args below meth c H locs cells slots Q (F0 m pc ls (.ref a :: rest)) := by
  obtain ⟨⟨hx, hb, hml, hown, hts⟩, hK, hr, hlo, hN9⟩ := X
  obtain ⟨e1, e2, e3⟩ := hT
  have hlink' : Cond.fieldLink own index (T k).1 (T k).2.1 (T k).2.2.1 ∈ Ts := by rw [e1, e2, e3]; exact hlink
  exact va_get hx hb hts hin hown hK Y.1 q0 he hc k hk (hts _ hlink') (fun _ h => h) hv hdg kk
theorem ti_vret {w : (Nat → Nat) → va_W} {h0 : Nat} (X : ty_X D cA p s m args meth c cc nL none Ts own) (u : Nat → Nat) (Y : ti_Y D (ti_A h0 s.heap.size) (w u) s H locs) (hdg : decode cc pc = .ok (.return_, 1)) : W p l e R s m args below meth c H locs cells slots (MQ below (ti_Q D cA w s.heap.size h0) args s cells slots (ti_A h0 s.heap.size)) (F0 m pc ls []) := by
  obtain ⟨⟨hx, hb, hml, hown, hts⟩, hK, hr, hlo, hN9⟩ := X
  refine W.vret (hlocks := hlo) hx hb hr (fun t ht hW => ?_) Y.2.2.2.2 hdg
  exact ⟨⟨u, rfl, trivial, by rw [ht]; exact Y.1, va_K.moved hW.alike hK, Y.2.1⟩, Y.2.2.F ht⟩
theorem ti_Ain {A : Nat → Prop} (hA : ∀ q, s.heap.size ≤ q → A q) (Y : ti_Y D A ws s H locs) {k a : Nat} {x : va_E} (hk : ws[k]? = some (a, x)) : ∀ b, ti_A a H.size b → A b := by
  intro b h
  rcases h with h | h
  · rw [h]; exact Y.2.1.2 k _ hk
  · exact hA b (Nat.le_trans Y.2.2.1 h)
/-- behind a constructor: its cell, the last one, is now its whole world -/
theorem ti_join {ws0 w1 : va_W} {a : Nat} {x : va_E} {H1 : Heap} {locs1 : List Loc} (hA : ∀ q, s.heap.size ≤ q → A q) (Y : ti_Y D A (ws0 ++ [(a, x)]) s H locs) (hP1 : va_P D vwCl w1 H1) (hD1 : va_D (ti_A a H.size) w1) (hk : ∀ q : Nat, q < H.size → ¬ ti_A a H.size q → H1[q]? = H[q]?) (hS : va_S A s.heap H1 locs1) : ti_Y D A (ws0 ++ w1) s H1 locs1 := by
  have hlast : (ws0 ++ [(a, x)])[ws0.length]? = some (a, x) := by rw [List.getElem?_append_right (Nat.le_refl _), Nat.sub_self]; rfl
  have hne : ∀ {k : Nat} {y : Nat × va_E}, ws0[k]? = some y → y.1 ≠ a := fun {k y} hy => tw_Dx Y.2.1 hy (j := 0) (y := (a, x)) rfl
  have hPl := tw_Pl Y.1
  refine ⟨va_P.app (hPl.kept fun k y hy => hk y.1 (hPl k y hy).lt fun h => ?_) hP1, va_D.app (tw_Dl Y.2.1) (hD1.weaken fun k y _ h => ti_Ain hA Y hlast _ h) (fun i j y z hy hz e => ?_), hS⟩
  · rcases h with h | h
    · exact hne hy h
    · exact absurd (hPl k y hy).lt (Nat.not_lt.mpr h)
  · rcases hD1.2 j z hz with h | h
    · exact hne hy (e.trans h)
    · exact absurd (hPl i y hy).lt (Nat.not_lt.mpr (by rw [e]; exact h))
/-- a constructor is called, on the cell that came last -/
theorem ti_call {y : MethodName} {mc ms : Nat} {wy : List Cond} {rm : Room} {ws0 : va_W} {a : Nat} {x : va_E} {w : (Nat → Nat) → va_W} (X : ty_X D cA p s m args meth c cc nL ret Ts own) (hA : ∀ q, s.heap.size ≤ q → A q) (Y : ti_Y D A (ws0 ++ [(a, x)]) s H locs) (hM : ∀ sz, Met l y wy rm (ti_Pc D cA [(a, x)] sz a) (ti_Q D cA w sz a) mc ms (ti_A a sz))
    (run : ∀ {Pc : Array Value → State → Prop} {Qc : Array Value → State → Outcome → State → Prop} {free : Addr → Prop}, Met l y wy rm Pc Qc mc ms free → PreS s H Pc [.ref a] → va_Run p l e R s m args below meth c H locs cells slots mc ms (F0 m pc ls (.ref a :: rest)) rest (Qc #[.ref a]) free)
    (kk : ∀ (u : Nat → Nat) (H1 : Heap) (locs1 : List Loc), ti_Y D A (ws0 ++ w u) s H1 locs1 → W p l e R s m args below meth c H1 locs1 (cells + mc) (slots + ms) Q (F0 m (pc + 3) ls rest)) : W p l e R s m args below meth c H locs cells slots Q (F0 m pc ls (.ref a :: rest)) := by
  have hlast : (ws0 ++ [(a, x)])[ws0.length]? = some (a, x) := by rw [List.getElem?_append_right (Nat.le_refl _), Nat.sub_self]; rfl
  obtain ⟨-, hK, -, -, hN⟩ := X
  have hpre : PreS s H (ti_Pc D cA [(a, x)] H.size a) [.ref a] := by
    refine ⟨fun a9 U g mk h => ?_, fun U hU hW => ⟨rfl, by rw [hU], by rw [hU]; exact tw_Pr Y.1, va_K.moved hW.alike hK, (tw_Dr Y.2.1).weaken (fun _ _ _ _ => trivial), hN.warm hW⟩⟩
    obtain ⟨q0, q1, qP, qK, qD, qN⟩ := h
    exact ⟨q0, q1, qP, va_K.moved (u := U) (U := U.calling g mk a9) (Vm.Alike.refl U.vm) qK, qD, ty_N.same (u := U) (U := U.calling g mk a9) rfl qN⟩
  refine va_callv (A1 := ti_A a H.size) (run (hM H.size) hpre) Y.2.2 (fun q _ h => ti_Ain hA Y hlast q h) (ti_Ain hA Y hlast) (fun u t H1 locs1 ht hvm hw hB hz hk hS => ?_)
  obtain ⟨hP1, hK1, hD1⟩ := hB
  rw [ht] at hP1
  exact kk u H1 locs1 (ti_join hA Y hP1 hD1 hk hS)
end TIR
/-- a constructor's contract out of a walk -/
theorem ti_ofM {l : Launch} {y : MethodName} {wy ws' : List Cond} {rm : Room} {cc : ByteArray} {maxL : Nat} {D : va_G} {cA : Nat → ClassId} {h0 : Nat} {x : va_E} {own : String} {w : (Nat → Nat) → va_W} {mc ms : Nat} (hy : plainName y.cls = true) (hy2 : y.name = "<init>") (hw : wy = Cond.code y cc maxL none :: ws') (hlen : 1 ≤ maxL) (hown : y.cls = own)
    (body : ∀ (p : Program) (e : Env) (s : State) (m : MethodId) (args : Array Value) (below : List Frame) (meth : Method) (c : Code) (ls : Array Slot), ty_X D cA p s m args meth c cc maxL none wy own → meth.name = "<init>" → (∀ q, s.heap.size ≤ q → ti_A h0 s.heap.size q) → lv_has ls maxL [(0, .ref h0)] → ∀ (locs : List Loc), ti_Y D (ti_A h0 s.heap.size) [(h0, x)] s s.heap locs →
      W p l e rm s m args below meth c s.heap locs 0 0 (MQ below (ti_Q D cA w s.heap.size h0) args s mc ms (ti_A h0 s.heap.size)) (F0 m 0 ls [])) (sz : Nat) : Met l y wy rm (ti_Pc D cA [(h0, x)] sz h0) (ti_Q D cA w sz h0) mc ms (ti_A h0 sz) := by
  refine Met.ofW (cc := cc) (maxL := maxL) (ret := none) hy hw ?_
  intro p e s m args below meth c s₁ B hml hv
  obtain ⟨rfl, hsz, hP, hK, hD0, hN⟩ := hv
  have hts := atoms_spec (ws := wy) B.pre
  have hn : s.vm.findClass y.cls = some m.cls := findClass_of_methodNamed B.named
  have hin : meth.name = "<init>" := (name_of_methodNamed B.named B.method).1.trans hy2
  subst hown
  subst hsz
  rw [lg_entry_eq]
  have hl := lv_entry [.ref h0] (n := maxL) hlen
  generalize (lg_sl [.ref h0] ++ List.replicate (maxL - (lg_sl [.ref h0]).length) Slot.unset).toArray = ls at hl ⊢
  refine body p e s m _ below meth c ls ⟨⟨B.exec, B.bytes, hml, hn, hts⟩, hK, B.returns, B.notSynchronized, hN⟩ hin (fun q h => Or.inr h) hl [] ⟨hP, ⟨hD0.1, fun k q hk => ?_⟩, va_S.rf⟩
  match k, hk with
  | 0, hk => cases hk; exact Or.inl rfl
  | k + 1, hk => simp at hk
