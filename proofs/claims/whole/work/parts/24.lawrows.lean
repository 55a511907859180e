/-! THE LAW'S OWN METHODS: a call that may throw, caught there; one object made at most -/
abbrev tl_MI (D : va_G) (cA : Nat → ClassId) (q : Nat → Nat) (Lay : List ty_E) (K : ty_S → Int32 → Prop) (below : List Frame) (args : Array Value) (s : State) : State → Prop := MQ below (ty_Qi D cA q Lay s.heap.size K) args s 1 6 (ty_A q Lay.length s.heap.size)
/-- no one of the three exceptions is another one -/
def tl_N (U : State) : Prop := ∀ i j, i < 3 → j < 3 → i ≠ j → va_Nc (ty_exc i) (ty_exc j) U
def tl_Pc (D : va_G) (cA : Nat → ClassId) (q : Nat → Nat) (Lay : List ty_E) (S : ty_S) (sz : Nat) (av : List Value) : Array Value → State → Prop := va_Pc av (fun U => U.heap.size = sz ∧ va_P D vwCl (ty_W cA q Lay S) U.heap ∧ va_K D vwCl (ty_tys cA) U ∧ va_D (fun _ => True) (ty_W cA q Lay S) ∧ ty_N U ∧ tx_Z (ty_A q Lay.length U.heap.size) U U.heap ∧ tl_N U)
def tl_X (l : Launch) (q : Nat → Nat) (Lay : List ty_E) (s : State) (c : Code) (hh : List (Nat × Nat × Nat × Nat)) : Prop := l.stackTraces = false ∧ c.exceptionTable.toList = tableOf hh ∧ tx_Z (ty_A q Lay.length s.heap.size) s s.heap ∧ tl_N s
section TLR
variable {p : Program} {l : Launch} {e : Env} {R : Room} {s : State} {m : MethodId} {args : Array Value} {below : List Frame} {meth : Method} {c : Code} {H : Heap} {locs : List Loc} {Q : State → Prop}
variable {D : va_G} {cA : Nat → ClassId} {q : Nat → Nat} {Lay : List ty_E} {S : ty_S} {cc : ByteArray} {nL : Nat} {ret : Option FieldType} {Ts : List Cond} {own : String} {pc : Nat} {ls : Array Slot} {rest : List Value} {KX : Nat → ty_S → Prop} {hh : List (Nat × Nat × Nat × Nat)}
theorem tl_iret1 {K : ty_S → Int32 → Prop} (X : ty_X D cA p s m args meth c cc nL (some .int) Ts own) (Y : ty_Y D cA q Lay S s H locs) {v : Int32} (h : K S v) (hdg : decode cc pc = .ok (.ireturn, 1)) : W p l e R s m args below meth c H locs 1 6 (tl_MI D cA q Lay K below args s) (F0 m pc ls [.int v]) := by
  obtain ⟨⟨hx, hb, hml, hown, hts⟩, hK, hr, hlo, hN⟩ := X
  refine W.iret (hlocks := hlo) hx hb hr (fun t ht hW => ?_) Y.2.2.2.2 hdg
  exact ⟨⟨v, S, rfl, h, by rw [ht]; exact Y.1, va_K.moved hW.alike hK, Y.2.1⟩, Y.2.2.F ht⟩
theorem tl_iret {K : ty_S → Int32 → Prop} (X : ty_X D cA p s m args meth c cc nL (some .int) Ts own) (Y : ty_Y D cA q Lay S s H locs) {v : Int32} (h : K S v) (hdg : decode cc pc = .ok (.ireturn, 1)) : W p l e R s m args below meth c H locs 0 0 (tl_MI D cA q Lay K below args s) (F0 m pc ls [.int v]) := W.widen (k := 1) (n := 6) (Nat.zero_le _) (Nat.zero_le _) (tl_iret1 X Y h hdg)
/-- what was thrown, here: its cell, its class -/
def tl_T (s : State) (k : Nat) (H1 : Heap) (q9 : Nat) : Prop := ∃ ce : Cell, H1[q9]? = some ce ∧ ce.vm = .none ∧ s.vm.findClass (ty_exc k) = some ce.cls
theorem tl_catch (X : ty_X D cA p s m args meth c cc nL ret Ts own) (Z : tl_X l q Lay s c hh) {k : Nat} {H1 : Heap} {q9 : Nat} {cells slots : Nat} (hk3 : k < 3) (hT : tl_T s k H1 q9) (pre suf : List ExceptionTableEntry) (x : ExceptionTableEntry) (hsp : tableOf hh = pre ++ x :: suf) (hpass : ∀ z ∈ pre, z.catchType ≠ 0 ∧ ∃ j, j < 3 ∧ j ≠ k ∧ Cond.classLink own z.catchType (ty_exc j) ∈ Ts) (hcov : covers x pc = true) (h0 : x.catchType ≠ 0) (hlink : Cond.classLink own x.catchType (ty_exc k) ∈ Ts)
    (kk : W p l e R s m args below meth c H1 locs cells slots Q (F0 m x.handlerPc ls [.ref q9])) : vx_W p l e R s m args below meth c H1 locs cells slots Q (F0 m pc ls rest) q9 := by
  obtain ⟨⟨hx, hb, hml, hown, hts⟩, hK, hr, hlo, hN⟩ := X
  obtain ⟨ce, hc, hv, hcl⟩ := hT
  refine vx_catch hown pre x suf (by rw [Z.2.1]; exact hsp) (fun z hz => ?_) hcov h0 (hts _ hlink) ?_ hc hv hcl kk
  · obtain ⟨hz0, j, hj, hjk, hl⟩ := hpass z hz
    exact Or.inr ⟨hz0, ty_exc j, hts _ hl, Z.2.2.2 k j hk3 hj (fun e => hjk e.symm)⟩
  · have hm : Cond.castable (ty_exc k) (ty_exc k) ∈ ty_xw := by
      match k, hk3 with
      | 0, _ => exact ty_m 0 rfl
      | 1, _ => exact ty_m 1 rfl
      | 2, _ => exact ty_m 2 rfl
    exact va_Nw.use rfl (Z.2.2.1.2.2.2 _ hm)
variable {y : MethodName} {bytes : ByteArray} {maxL index n : Nat} {ret' : Option FieldType} {ws : List Cond} {rm : Room} {C : String} {As : List Value} {b : Nat}
theorem tl_Vi {K : ty_S → Int32 → Prop} (X : ty_X D cA p s m args meth c cc nL ret Ts own) (Z : tl_X l q Lay s c hh) (Y : ty_Y D cA q Lay S s H locs) (hM : ∀ sz, tx_Met l y ws rm (tx_Pc D cA q Lay S sz (.ref (q b) :: As)) (ty_Qi D cA q Lay sz K) (tx_XC D cA q Lay sz KX) 1 6 (ty_A q Lay.length sz))
    {ci N : Nat} {fs : List (Nat ⊕ Nat)} {T : u_T} (ho : Lay[b]? = some (.inl (ci, fs))) (hc : vwCl[ci]? = some (C, T, N))
    (cw : (∀ w ∈ Ts, w.before args s = true) → CallW R s args own C index y bytes maxL ret' ws rm 1 6 n) (hn : As.length = n) (hsize : ls.size = nL) (hW : (rest.map fun v => v.category).sum ≤ 8) (hdg : decode cc pc = .ok (.invokevirtual index, 3)) (hf : 1 ≤ R.cells ∧ 6 ≤ R.slots)
    (kx : ∀ (k : Nat) (S' : ty_S) (H1 : Heap) (locs1 : List Loc) (q9 : Nat), KX k S' → k < 3 → ty_Y D cA q Lay S' s H1 locs1 → tl_T s k H1 q9 → vx_W p l e R s m args below meth c H1 locs1 1 6 Q (F0 m pc ls rest) q9)
    (kk : ∀ (r : Int32) (S' : ty_S) (H1 : Heap) (locs1 : List Loc), K S' r → ty_Y D cA q Lay S' s H1 locs1 → W p l e R s m args below meth c H1 locs1 0 0 Q (F0 m (pc + 3) ls (.int r :: rest))) : W p l e R s m args below meth c H locs 0 0 Q (F0 m pc ls (As.reverse ++ .ref (q b) :: rest)) := by
  obtain ⟨hbl, hpre⟩ := tx_pre (av := .ref (q b) :: As) X Y Z.2.2.1
  refine tx_calli (A1 := ty_A q Lay.length H.size) (AX := ty_A q Lay.length H.size) (tx_runV X.1 (hM H.size) (cw X.1.2.2.2.2) ⟨hbl, va_recv (q0 := b) X.2.1 Y.1 hc (ty_W_at ho), hpre⟩ rfl hn hsize rfl (lv_room hW) hdg (by omega)) Y.2.2 (fun a _ h => ty_Ain Y a h) (ty_Ain Y) (fun a _ h => ty_Ain Y a h) (fun E ce q9 u t H1 locs1 ht hvm hp hB hz hk hS hc hv hcl => ?_) (fun r u t H1 locs1 ht hvm hw hB hz hk hS => ?_)
  · obtain ⟨rfl, hB⟩ := hB
    exact kx u.1 u.2 H1 locs1 q9 hp.1 hp.2 (ty_back Y ht hB hS) ⟨ce, hc, hv, hcl⟩
  · exact kk r u H1 locs1 hw (ty_back Y ht hB hS)
end TLR
/-- a contract of a method with a table of handlers, out of a walk -/
theorem tl_ofM {l : Launch} (hst : l.stackTraces = false) {y : MethodName} {ws ws' : List Cond} {rm : Room} {cc : ByteArray} {maxL : Nat} {ret : Option FieldType} {hh : List (Nat × Nat × Nat × Nat)} {D : va_G} {cA : Nat → ClassId} {q : Nat → Nat} {Lay : List ty_E} {S : ty_S} {av : List Value} {own : String} {Qc : Nat → Array Value → State → Outcome → State → Prop} (hy : plainName y.cls = true) (hw : ws = Cond.codeWith y cc maxL ret hh :: ws') (hlen : (lg_sl av).length ≤ maxL) (hown : y.cls = own)
    (body : ∀ (p : Program) (e : Env) (s : State) (m : MethodId) (args : Array Value) (below : List Frame) (meth : Method) (c : Code) (ls : Array Slot), ty_X D cA p s m args meth c cc maxL ret ws own → tl_X l q Lay s c hh → lv_has ls maxL (lv_args 0 av) → ty_Y D cA q Lay S s s.heap [] →
      W p l e rm s m args below meth c s.heap [] 0 0 (MQ below (Qc s.heap.size) args s 1 6 (ty_A q Lay.length s.heap.size)) (F0 m 0 ls [])) (sz : Nat) : Met l y ws rm (tl_Pc D cA q Lay S sz av) (Qc sz) 1 6 (ty_A q Lay.length sz) := by
  refine MetFree.of_bodyS (code := cc) (maxLocals := maxL) (ret := ret) hy ?_ ?_
  · intro args s m h hn
    obtain ⟨m9, meth, c, hn9, h1, h2, h3, h4, -, h5, h6, -⟩ := Cond.codeWith_spec (atoms_spec (ws := ws) h _ (by rw [hw]; exact List.mem_cons_self))
    cases hn.symm.trans hn9
    exact ⟨meth, c, h1, h2, h3, h4, h5, h6⟩
  · intro p e s m args below meth c s₁ B hml hv _
    have hh0 : s₁.heap = s.heap := by rw [B.state]; rfl
    obtain ⟨rfl, hsz, hP, hK, hD0, hN, hZ, hC⟩ := hv
    have hts := atoms_spec (ws := ws) B.pre
    have hn : s.vm.findClass y.cls = some m.cls := findClass_of_methodNamed B.named
    have htab : c.exceptionTable.toList = tableOf hh := vx_table (x := y) B (hts _ (by rw [hw]; exact List.mem_cons_self))
    subst hown
    subst hsz
    have hl := lv_entry av (n := maxL) hlen
    have hbody : W p l e rm s m av.toArray below meth c s.heap [] 0 0 (MQ below (Qc s.heap.size) av.toArray s 1 6 (ty_A q Lay.length s.heap.size)) (entryFrame m av.toArray maxL) := by
      rw [lg_entry_eq]
      generalize (lg_sl av ++ List.replicate (maxL - (lg_sl av).length) Slot.unset).toArray = ls at hl ⊢
      exact body p e s m _ below meth c ls ⟨⟨B.exec, B.bytes, hml, hn, hts⟩, hK, B.returns, B.notSynchronized, hN⟩ ⟨hst, htab, hZ, hC⟩ hl ⟨hP, ty_D_self _ hD0, va_S.rf⟩
    obtain ⟨t, a1, o, b1, b2, b3⟩ := hbody s₁ hh0 (Stand.of_body B)
    exact ⟨t, o, a1, b1, b2, b3⟩
