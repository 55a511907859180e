/-! METHODS THAT RETURN, NOTHING MADE, OR THROW, ONE OBJECT MADE (tx_back, tx_runV, tx_runS, tx_calli, tx_callv follow vx_back .. of part 02, with their own counts at the return) -/
section TXA
def tx_Q (Qc : Array Value → State → Outcome → State → Prop) (XC : String → State → State → Prop) (mc ms : Nat) (free : Addr → Prop) : Array Value → State → Outcome → State → Prop := fun a st o t =>
  (Qc a st o t ∧ ∃ L, FrameEnd st o t L 0 0 ∧ ∀ q ∈ L, free q.base) ∨ ∃ q, o = .threw q ∧ vx_T XC st q t mc ms free
def tx_Met (l : Launch) (y : MethodName) (ws : List Cond) (rm : Room) (Pc : Array Value → State → Prop) (Qc : Array Value → State → Outcome → State → Prop) (XC : String → State → State → Prop) (mc ms : Nat) (free : Addr → Prop) : Prop :=
  MetFree l y (headSpec ws rm) Pc (fun _ _ _ _ _ => True) (tx_Q Qc XC mc ms free)
section Payer
variable {l : Launch} {R : Room} {p : Program} {e : Env} {below : List Frame} {s : State} {sargs : Array Value} {y : MethodName} {len W9 : Nat}
theorem tx_back {ws : List Cond} {rm : Room} {Pc : Array Value → State → Prop} {Qc : Array Value → State → Outcome → State → Prop} {XC : String → State → State → Prop} {mc ms : Nat} {free : Addr → Prop} {bytes : ByteArray} {maxL : Nat} {ret : Option FieldType}
    (hM : tx_Met l y ws rm Pc Qc XC mc ms free) (hblind : FrameBlind Pc) (hrc : rm.cells = mc) (hrs : rm.slots = ms)
    (hframes : rm.frames + 1 ≤ R.frames) (hlocals : W9 + (maxL + 11) + rm.locals ≤ R.locals)
    (hws : ∀ w ∈ ws, ∀ a' U, s.WarmedH U.vm → w.before a' U = true) (hcode : Cond.code y bytes maxL ret ∈ ws) (hinit : ∀ a' U, s.WarmedH U.vm → (Cond.initialized y.cls).before a' U = true) :
    vx_Back l R p e below s sargs y len W9 (PreOf R mc ms Pc) (PostOf Qc 0 0 free) (vx_Post XC mc ms free) := by
  intro m meth c A g ig mk a X hg hsize hdg hW hn hp
  have h1 : (headSpec ws rm).pre.before a A.U = true := atoms_intro fun w hw => hws w hw _ _ X.warmed
  have h2 : (Cond.code y bytes maxL ret).before a A.U = true := hws _ hcode _ _ X.warmed
  have h3 : (Cond.initialized y.cls).before a A.U = true := hinit _ _ X.warmed
  have h4 : A.cells + (headSpec ws rm).room.cells ≤ R.cells := by rw [show (headSpec ws rm).room.cells = mc from hrc]; exact hp.1
  have h5 : A.slots + (headSpec ws rm).room.slots ≤ R.slots := by rw [show (headSpec ws rm).room.slots = ms from hrs]; exact hp.2.1
  have hPc : Pc a (A.U.calling g mk a) := hblind _ _ _ _ hp.2.2
  obtain ⟨U, Ls, c0, s0⟩ := A
  dsimp only [Pt.U, Pt.locs, Pt.cells, Pt.slots] at h1 h2 h3 h4 h5 X hn hPc ⊢
  obtain ⟨methY, cY, hmY, hcY, -, hlY, -, -, -, -⟩ := Cond.code_spec hn h2
  obtain ⟨kY, hkY, -⟩ := className_of_methodNamed hn
  have hinitY : kY.init = .initialized := Cond.initialized_spec (findClass_of_methodNamed hn) hkY h3
  have h : At U g.method c below := by rw [hg]; exact X.here
  have hlocals9 : W9 + (maxL + 11) + (headSpec ws rm).room.locals ≤ R.locals := hlocals
  have happ : (headSpec ws rm).appliesLoose y e.platform (U.calling g mk a) = true :=
    Spec.appliesLoose_calling (g := g) h hdg hn hkY hinitY
      (X.room_calling (g := g) (R' := (headSpec ws rm).room) hsize hmY hcY hframes (by rw [hlY]; omega) h4 h5) h1
  obtain ⟨mid, hmid⟩ := h.above
  have hfr : (U.setTop g).frames = (.java g :: mid) ++ below := by rw [State.frames_setTop' g h.top, hmid]; rfl
  obtain ⟨o, s₂, hsteps, -, hend, hq⟩ := Steps.callFree hM p X.admits X.cas X.clock (acts := []) hfr happ hPc trivial
  have hq' : tx_Q Qc XC mc ms free a (U.calling g mk a) o s₂ := hq
  rw [State.frames_setTop' g h.top] at hend
  obtain ⟨g₀, hg0⟩ := Option.isSome_iff_exists.mp h.top
  obtain ⟨r, hr⟩ := State.topJava?_eq_some.mp hg0
  have hr' : (({ U with heap := s₂.heap, slotsUsed := s₂.slotsUsed } : State).setVm s₂.vm).frames = .java g₀ :: r := hr
  rcases hq' with ⟨hqc, L, hfe, hL⟩ | ⟨q, rfl, E, ce, L, hx, hce, hcv, hcl, hW₂, hsm, hL⟩
  · obtain ⟨⟨v, rfl⟩, hW₂, e2, q2, q3, q4, q5, q6⟩ := id hfe
    have e3 : s₂ = ({ (U.calling g mk a).setFrames s₂.frames with heap := s₂.heap, slotsUsed := s₂.slotsUsed } : State).setVm s₂.vm := by
      have : s₂ = ({ s₂ with vm := (U.calling g mk a).vm } : State).setVm s₂.vm := rfl
      rw [e2] at this
      exact this
    obtain ⟨c₂, i₂, len₂, hc₂, hd₂, hf₂⟩ := hend
    have hW' : U.WarmedH s₂.vm := hW₂
    have hcc : c₂ = c := by
      have h1 : s₂.code? g.method = U.code? g.method := by
        rw [State.code?_eq, State.code?_eq, hW'.alike.method?]
      exact Option.some.inj (hc₂.symm.trans (h1.trans h.code))
    subst hcc
    have hlen : len₂ = len := by rw [hdg] at hd₂; cases hd₂; rfl
    subst hlen
    have hs₂ : s₂ = (({ U with heap := s₂.heap, slotsUsed := s₂.slotsUsed } : State).setVm s₂.vm).setTop { g with pc := g.pc + len₂, stack := v.toList ++ g.stack } := by
      refine e3.trans ?_
      rw [hf₂, State.calling_eq h.top, State.setFrames_setFrames, State.setTop_of_frames _ hr', hr]
      rfl
    have hsame : U.sameButNew ({ U with heap := s₂.heap, slotsUsed := s₂.slotsUsed } : State) L 0 0 := by
      refine ⟨?_, q2, q3, q4, q5, q6⟩
      obtain ⟨t, ht, -⟩ := State.frames_cons hr
      show ({ U with heap := s₂.heap, slotsUsed := s₂.slotsUsed } : State) = { U.setFrames U.frames with heap := s₂.heap, slotsUsed := s₂.slotsUsed }
      rw [State.setFrames_self ht]
    subst hg
    refine Or.inl ⟨v, ⟨(({ U with heap := s₂.heap, slotsUsed := s₂.slotsUsed } : State).setVm s₂.vm), Ls ++ L, c0 + 0, s0 + 0⟩,
      ⟨X.admits, X.cas, X.clock, X.frames, X.room, X.hears, X.method, X.code, (X.here.setHeapUsed s₂.heap s₂.slotsUsed).setVm hW'.alike, X.tail, State.WarmedH.trans X.warmed hW', X.limits, X.bytes, X.same.trans (hsame.setVm s.vm)⟩,
      ⟨g, mk, s₂, L, rfl, rfl, hqc, rfl, hL, rfl, rfl⟩, ?_⟩
    show Steps p.tables e below _ ((({ U with heap := s₂.heap, slotsUsed := s₂.slotsUsed } : State).setVm s₂.vm).setTop { g with pc := g.pc + len₂, stack := v.toList ++ g.stack })
    rw [← hs₂]
    exact hsteps
  · obtain ⟨e2, q2, q3, q4, q5, q6⟩ := id hsm
    have e3 : s₂ = ({ (U.calling g mk a).setFrames s₂.frames with heap := s₂.heap, slotsUsed := s₂.slotsUsed } : State).setVm s₂.vm := by
      have : s₂ = ({ s₂ with vm := (U.calling g mk a).vm } : State).setVm s₂.vm := rfl
      rw [e2] at this
      exact this
    have hf₂ : s₂.frames = .throwing q :: .java g :: U.frames.tail := hend
    have hW' : U.WarmedH s₂.vm := hW₂
    have hs₂ : s₂ = ((({ U with heap := s₂.heap, slotsUsed := s₂.slotsUsed } : State).setVm s₂.vm).setTop g).pushFrame (.throwing q) := by
      refine e3.trans ?_
      rw [hf₂, State.calling_eq h.top, State.setFrames_setFrames, State.pushFrame, State.frames_setTop _ hr', State.setTop_of_frames _ hr', State.setFrames_setFrames, hr]
      rfl
    have hsame : U.sameButNew ({ U with heap := s₂.heap, slotsUsed := s₂.slotsUsed } : State) L mc ms := by
      refine ⟨?_, q2, q3, q4, q5, q6⟩
      obtain ⟨t, ht, -⟩ := State.frames_cons hr
      show ({ U with heap := s₂.heap, slotsUsed := s₂.slotsUsed } : State) = { U.setFrames U.frames with heap := s₂.heap, slotsUsed := s₂.slotsUsed }
      rw [State.setFrames_self ht]
    subst hg
    refine Or.inr ⟨q, ⟨(({ U with heap := s₂.heap, slotsUsed := s₂.slotsUsed } : State).setVm s₂.vm), Ls ++ L, c0 + mc, s0 + ms⟩,
      ⟨X.admits, X.cas, X.clock, X.frames, X.room, X.hears, X.method, X.code, (X.here.setHeapUsed s₂.heap s₂.slotsUsed).setVm hW'.alike, X.tail, State.WarmedH.trans X.warmed hW', X.limits, X.bytes, X.same.trans (hsame.setVm s.vm)⟩,
      ⟨g, mk, s₂, L, E, ce, rfl, rfl, hx, hce, hcv, hcl, rfl, hL, rfl, rfl⟩, ?_⟩
    show Steps p.tables e below _ (((({ U with heap := s₂.heap, slotsUsed := s₂.slotsUsed } : State).setVm s₂.vm).setTop g).pushFrame (.throwing q))
    rw [← hs₂]
    exact hsteps
end Payer
def tx_Run (p : Program) (l : Launch) (e : Env) (R : Room) (s : State) (m : MethodId) (args : Array Value) (below : List Frame) (meth : Method) (c : Code) (H : Heap) (locs : List Loc) (cells slots mc ms : Nat) (g : JFrame) (rest : List Value) (Qa : State → Outcome → State → Prop) (XC : String → State → State → Prop) (free : Addr → Prop) : Prop :=
  ∀ T : State, T.heap = H → Stand p l e R s m args below meth c T locs cells slots →
    (∃ (v : Option Value) (st₀ t T' : State) (L : List Loc), st₀.heap = H ∧ Stand p l e R s m args below meth c T' (locs ++ L) (cells + 0) (slots + 0) ∧ (∀ q ∈ L, free q.base) ∧ T'.heap = t.heap ∧ T'.vm = t.vm ∧ Qa st₀ (.returned v) t ∧
      Goes p e below T g T' { g with pc := g.pc + 3, stack := v.toList ++ rest }) ∨
    (∃ (q : Addr) (st₀ t T' : State) (L : List Loc) (E : String) (ce : Cell), st₀.heap = H ∧ Stand p l e R s m args below meth c T' (locs ++ L) (cells + mc) (slots + ms) ∧ (∀ z ∈ L, free z.base) ∧ T'.heap = t.heap ∧ T'.vm = t.vm ∧ XC E st₀ t ∧ t.heap[q]? = some ce ∧ ce.vm = .none ∧ s.vm.findClass E = some ce.cls ∧
      Steps p.tables e below (T.setTop g) ((T'.setTop { g with stack := rest }).pushFrame (.throwing q)))
section Runs
variable {p : Program} {l : Launch} {e : Env} {R : Room} {s : State} {m : MethodId} {args : Array Value} {below : List Frame} {meth : Method} {c : Code} {H : Heap} {locs : List Loc} {cells slots : Nat}
variable {y : MethodName} {bytes cc : ByteArray} {maxL nL mc ms n index : Nat} {ret : Option FieldType} {ws : List Cond} {rm : Room} {Pc : Array Value → State → Prop} {Qc : Array Value → State → Outcome → State → Prop} {XC : String → State → State → Prop} {free : Addr → Prop} {Ts : List Cond} {own C : String} {b : Addr} {As rest : List Value} {g : JFrame}
theorem tx_callBack (cb : CallB R s args own index y bytes maxL ret ws rm mc ms n) (hM : tx_Met l y ws rm Pc Qc XC mc ms free) (hbl : FrameBlind Pc) : vx_Back l R p e below s args y 3 8 (PreOf R mc ms Pc) (PostOf Qc 0 0 free) (vx_Post XC mc ms free) := by
  obtain ⟨hrc, hrs, hfr, hlo, hws, hcw, -, hini, -⟩ := cb
  exact tx_back (bytes := bytes) (maxL := maxL) (ret := ret) hM hbl hrc hrs hfr hlo hws hcw (fun a' U hW => word_at hW (Or.inl (by first | rfl | simp [Cond.onTables, Cond.keeps, Cond.steady])) hini)
theorem tx_runV (S : CallFix p m c cc nL s args Ts own) (hM : tx_Met l y ws rm Pc Qc XC mc ms free) (cw : CallW R s args own C index y bytes maxL ret ws rm mc ms n) (hp : PreV s H C b Pc As)
    (hg : g.method = m) (hn : As.length = n) (hsize : g.locals.size = nL) (hstack : g.stack = As.reverse ++ .ref b :: rest) (hW : 2 * g.monitorRoom + (rest.map fun v => v.category).sum ≤ 8) (hdg : decode cc g.pc = .ok (.invokevirtual index, 3)) (hf : cells + mc ≤ R.cells ∧ slots + ms ≤ R.slots) :
    tx_Run p l e R s m args below meth c H locs cells slots mc ms g rest (Qc (Value.ref b :: As).toArray) XC free := by
  have hK : vx_Back l R p e below s args y 3 8 (PreOf R mc ms Pc) (PostOf Qc 0 0 free) (vx_Post XC mc ms free) := tx_callBack cw.1 hM hp.1
  obtain ⟨⟨-, -, -, -, -, -, hcode, -, hy, hlen, hl⟩, hin, hse⟩ := cw
  obtain ⟨hx, hb, hml, ho, -⟩ := S
  obtain ⟨-, ⟨cellB, hcB, hoB, hclB⟩, hPc⟩ := hp
  intro T hT X
  rcases vx_callV X hx (C := C) (bytes := bytes) (maxL := maxL) (ret := ret) ho hl hin hse hcode hy hK (by rw [hT]; exact hcB) hoB hclB hg (hsize.trans hml.symm) (argsL := As) (rest := rest) (fun sig h => hn.trans (hlen sig h)) hstack hW (by rw [hb]; exact hdg)
    (fun vm₁ hW₁ => ⟨hf.1, hf.2, hPc (T.setVm vm₁) hT hW₁⟩) with ⟨v, vm₁, ⟨U', l2, c2, s2⟩, hW₁, X', ⟨g', mk, t, L, e1, e2, hq, h1, hL, h2, h3⟩, st⟩ | ⟨q, vm₁, ⟨U', l2, c2, s2⟩, hW₁, X', ⟨g', mk, t, L, E, ce, e1, e2, hq, hce, hcv, hcl, h1, hL, h2, h3⟩, st⟩
  · dsimp only [Pt.U, Pt.locs, Pt.cells, Pt.slots] at X' e1 e2 h1 h2 h3 st
    subst h1; subst h2; subst h3
    exact Or.inl ⟨v, (T.setVm vm₁).calling g' mk (Value.ref b :: As).toArray, t, U', L, hT, X', hL, e1, e2, hq, st⟩
  · dsimp only [Pt.U, Pt.locs, Pt.cells, Pt.slots] at X' e1 e2 h1 h2 h3 st hcl
    subst h1; subst h2; subst h3
    exact Or.inr ⟨q, (T.setVm vm₁).calling g' mk (Value.ref b :: As).toArray, t, U', L, E, ce, hT, X', hL, e1, e2, hq, hce, hcv, vx_cls hW₁ hcl, st⟩
theorem tx_runS (S : CallFix p m c cc nL s args Ts own) (hM : tx_Met l y ws rm Pc Qc XC mc ms free) (cw : CallB R s args own index y bytes maxL ret ws rm mc ms n ∧ (Cond.static y).before args s = true) (hp : PreS s H Pc As)
    (hg : g.method = m) (hn : As.length = n) (hsize : g.locals.size = nL) (hstack : g.stack = As.reverse ++ rest) (hW : 2 * g.monitorRoom + (rest.map fun v => v.category).sum ≤ 8) (hdg : decode cc g.pc = .ok (.invokestatic index, 3)) (hf : cells + mc ≤ R.cells ∧ slots + ms ≤ R.slots) :
    tx_Run p l e R s m args below meth c H locs cells slots mc ms g rest (Qc As.toArray) XC free := by
  have hK : vx_Back l R p e below s args y 3 8 (PreOf R mc ms Pc) (PostOf Qc 0 0 free) (vx_Post XC mc ms free) := tx_callBack cw.1 hM hp.1
  obtain ⟨⟨-, -, -, -, -, -, hcode, hini, hy, hlen, hl⟩, hstt⟩ := cw
  obtain ⟨hx, hb, hml, ho, -⟩ := S
  intro T hT X
  rcases vx_callS X hx (bytes := bytes) (maxL := maxL) (ret := ret) ho hl hstt hini hcode hy hK hg (hsize.trans hml.symm) (argsL := As) (rest := rest) (fun sig h => hn.trans (hlen sig h)) hstack hW (by rw [hb]; exact hdg)
    (fun vm₁ hW₁ => ⟨hf.1, hf.2, hp.2 (T.setVm vm₁) hT hW₁⟩) with ⟨v, vm₁, ⟨U', l2, c2, s2⟩, hW₁, X', ⟨g', mk, t, L, e1, e2, hq, h1, hL, h2, h3⟩, st⟩ | ⟨q, vm₁, ⟨U', l2, c2, s2⟩, hW₁, X', ⟨g', mk, t, L, E, ce, e1, e2, hq, hce, hcv, hcl, h1, hL, h2, h3⟩, st⟩
  · dsimp only [Pt.U, Pt.locs, Pt.cells, Pt.slots] at X' e1 e2 h1 h2 h3 st
    subst h1; subst h2; subst h3
    exact Or.inl ⟨v, (T.setVm vm₁).calling g' mk As.toArray, t, U', L, hT, X', hL, e1, e2, hq, st⟩
  · dsimp only [Pt.U, Pt.locs, Pt.cells, Pt.slots] at X' e1 e2 h1 h2 h3 st hcl
    subst h1; subst h2; subst h3
    exact Or.inr ⟨q, (T.setVm vm₁).calling g' mk As.toArray, t, U', L, E, ce, hT, X', hL, e1, e2, hq, hce, hcv, vx_cls hW₁ hcl, st⟩
end Runs
section Rows
variable {p : Program} {l : Launch} {e : Env} {R : Room} {s : State} {m : MethodId} {args : Array Value} {below : List Frame} {meth : Method} {c : Code} {H : Heap} {locs : List Loc} {cells slots : Nat} {Q : State → Prop}
variable {mc ms : Nat} {free : Addr → Prop} {A0 A1 : Nat → Prop} {H0 : Heap} {a : Array Value} {pc : Nat} {ls : Array Slot} {st0 rest : List Value}
theorem tx_calli {S SX : Type} {post : Int32 → S → Prop} {px : SX → Prop} {B : S → State → Prop} {BX : String → SX → State → Prop} {AX : Nat → Prop} (hr : tx_Run p l e R s m args below meth c H locs cells slots mc ms (F0 m pc ls st0) rest (va_Qi post B A1 a) (vx_X px BX AX) free) (hS : va_S A0 H0 H locs) (hA : ∀ q, q < H.size → A1 q → A0 q) (hf : ∀ q, free q → A0 q) (hAX : ∀ q, q < H.size → AX q → A0 q)
    (kx : ∀ (E : String) (ce : Cell) (q9 : Addr) (u : SX) (t : State) (H1 : Heap) (locs1 : List Loc), t.heap = H1 → s.vm.Alike t.vm → px u → BX E u t → H.size ≤ H1.size → (∀ q : Nat, q < H.size → ¬ AX q → H1[q]? = H[q]?) → va_S A0 H0 H1 locs1 → H1[q9]? = some ce → ce.vm = .none → s.vm.findClass E = some ce.cls → vx_W p l e R s m args below meth c H1 locs1 (cells + mc) (slots + ms) Q (F0 m pc ls rest) q9)
    (kk : ∀ (r : Int32) (u : S) (t : State) (H1 : Heap) (locs1 : List Loc), t.heap = H1 → s.vm.Alike t.vm → post r u → B u t → H.size ≤ H1.size → (∀ q : Nat, q < H.size → ¬ A1 q → H1[q]? = H[q]?) → va_S A0 H0 H1 locs1 → W p l e R s m args below meth c H1 locs1 cells slots Q (F0 m (pc + 3) ls (.int r :: rest))) : W p l e R s m args below meth c H locs cells slots Q (F0 m pc ls st0) := by
  intro T hT X
  rcases hr T hT X with ⟨v, st₀, t, T', L, h0, X', hL, e1, e2, ⟨⟨r, u, hv, hp, hb⟩, hF⟩, st⟩ | ⟨q, st₀, t, T', L, E, ce, h0, X', hL, e1, e2, ⟨u, hp, hb, hF⟩, hce, hcv, hcl, st⟩
  · cases hv
    obtain ⟨k1, k2, k3⟩ := vx_keep h0 e1 hS hA hf hL hF
    obtain ⟨t2, a1, b1⟩ := kk r u t T'.heap (locs ++ L) e1.symm (by rw [← e2]; exact X'.warmed.alike) hp hb k1 k2 k3 T' rfl X'
    exact ⟨t2, st t2 a1, b1⟩
  · obtain ⟨k1, k2, k3⟩ := vx_keep h0 e1 hS hAX hf hL hF
    obtain ⟨t2, a1, b1⟩ := kx E ce q u t T'.heap (locs ++ L) e1.symm (by rw [← e2]; exact X'.warmed.alike) hp hb k1 k2 k3 (by rw [e1]; exact hce) hcv hcl T' rfl X'
    exact ⟨t2, st.trans a1, b1⟩
theorem tx_callv {S SX : Type} {post : S → Prop} {px : SX → Prop} {B : S → State → Prop} {BX : String → SX → State → Prop} {AX : Nat → Prop} (hr : tx_Run p l e R s m args below meth c H locs cells slots mc ms (F0 m pc ls st0) rest (va_Qv post B A1 a) (vx_X px BX AX) free) (hS : va_S A0 H0 H locs) (hA : ∀ q, q < H.size → A1 q → A0 q) (hf : ∀ q, free q → A0 q) (hAX : ∀ q, q < H.size → AX q → A0 q)
    (kx : ∀ (E : String) (ce : Cell) (q9 : Addr) (u : SX) (t : State) (H1 : Heap) (locs1 : List Loc), t.heap = H1 → s.vm.Alike t.vm → px u → BX E u t → H.size ≤ H1.size → (∀ q : Nat, q < H.size → ¬ AX q → H1[q]? = H[q]?) → va_S A0 H0 H1 locs1 → H1[q9]? = some ce → ce.vm = .none → s.vm.findClass E = some ce.cls → vx_W p l e R s m args below meth c H1 locs1 (cells + mc) (slots + ms) Q (F0 m pc ls rest) q9)
    (kk : ∀ (u : S) (t : State) (H1 : Heap) (locs1 : List Loc), t.heap = H1 → s.vm.Alike t.vm → post u → B u t → H.size ≤ H1.size → (∀ q : Nat, q < H.size → ¬ A1 q → H1[q]? = H[q]?) → va_S A0 H0 H1 locs1 → W p l e R s m args below meth c H1 locs1 cells slots Q (F0 m (pc + 3) ls (rest))) : W p l e R s m args below meth c H locs cells slots Q (F0 m pc ls st0) := by
  intro T hT X
  rcases hr T hT X with ⟨v, st₀, t, T', L, h0, X', hL, e1, e2, ⟨⟨u, hv, hp, hb⟩, hF⟩, st⟩ | ⟨q, st₀, t, T', L, E, ce, h0, X', hL, e1, e2, ⟨u, hp, hb, hF⟩, hce, hcv, hcl, st⟩
  · cases hv
    obtain ⟨k1, k2, k3⟩ := vx_keep h0 e1 hS hA hf hL hF
    obtain ⟨t2, a1, b1⟩ := kk u t T'.heap (locs ++ L) e1.symm (by rw [← e2]; exact X'.warmed.alike) hp hb k1 k2 k3 T' rfl X'
    exact ⟨t2, st t2 a1, b1⟩
  · obtain ⟨k1, k2, k3⟩ := vx_keep h0 e1 hS hAX hf hL hF
    obtain ⟨t2, a1, b1⟩ := kx E ce q u t T'.heap (locs ++ L) e1.symm (by rw [← e2]; exact X'.warmed.alike) hp hb k1 k2 k3 (by rw [e1]; exact hce) hcv hcl T' rfl X'
    exact ⟨t2, st.trans a1, b1⟩
end Rows
section Ends
variable {p : Program} {l : Launch} {e : Env} {R : Room} {s : State} {m : MethodId} {args : Array Value} {below : List Frame} {meth : Method} {c : Code} {H : Heap} {locs : List Loc} {cells slots : Nat} {Q : State → Prop}
variable {mc ms : Nat} {free : Addr → Prop} {A0 A1 : Nat → Prop} {H0 : Heap} {a : Array Value} {ls : Array Slot} {st0 rest : List Value}
variable {Qc : Array Value → State → Outcome → State → Prop} {XC : String → State → State → Prop}
def tx_MQ (below : List Frame) (Qc : Array Value → State → Outcome → State → Prop) (XC : String → State → State → Prop) (a : Array Value) (s : State) (mc ms : Nat) (free : Addr → Prop) : State → Prop := fun t =>
  ∃ o, t.status = .running ∧ Ended t below o ∧ tx_Q Qc XC mc ms free a s o t
theorem tx_ret {g : JFrame} {mc ms : Nat} (k : W p l e R s m args below meth c H locs cells slots (MQ below Qc args s 0 0 free) g) : W p l e R s m args below meth c H locs cells slots (tx_MQ below Qc XC args s mc ms free) g := by
  intro T hT X
  obtain ⟨t, a1, o, b1, b2, b3, b4⟩ := k T hT X
  exact ⟨t, a1, o, b1, b2, Or.inl ⟨b3, b4⟩⟩
/-- a throw out of the method -/
theorem tx_thr {g : JFrame} {mc ms : Nat} (k : W p l e R s m args below meth c H locs cells slots (vx_MQ below (fun _ _ _ _ => False) XC args s mc ms free) g) : W p l e R s m args below meth c H locs cells slots (tx_MQ below Qc XC args s mc ms free) g := by
  intro T hT X
  obtain ⟨t, a1, o, b1, b2, b3⟩ := k T hT X
  refine ⟨t, a1, o, b1, b2, ?_⟩
  rcases b3 with ⟨h, -⟩ | h
  · exact False.elim h
  · exact Or.inr h
theorem tx_thrW {g : JFrame} {q : Addr} {mc ms : Nat} (k : vx_W p l e R s m args below meth c H locs cells slots (vx_MQ below (fun _ _ _ _ => False) XC args s mc ms free) g q) : vx_W p l e R s m args below meth c H locs cells slots (tx_MQ below Qc XC args s mc ms free) g q := by
  intro T hT X
  obtain ⟨t, a1, o, b1, b2, b3⟩ := k T hT X
  refine ⟨t, a1, o, b1, b2, ?_⟩
  rcases b3 with ⟨h, -⟩ | h
  · exact False.elim h
  · exact Or.inr h
end Ends
section Bodies
variable {l : Launch}
theorem tx_ofW {y : MethodName} {ws ws' : List Cond} {rm : Room} {Pc : Array Value → State → Prop} {Qc : Array Value → State → Outcome → State → Prop} {XC : String → State → State → Prop} {mc ms : Nat} {free : Addr → Prop} {cc : ByteArray} {maxL : Nat} {ret : Option FieldType}
    (hy : plainName y.cls = true) (hw : ws = Cond.code y cc maxL ret :: ws')
    (body : ∀ p e s m args below meth c s₁, BodyLoose p l y (headSpec ws rm) cc maxL ret e s m args below meth c s₁ → c.maxLocals = maxL → (∀ x ∈ c.exceptionTable.toList, False) → Pc args s →
      W p l e (headSpec ws rm).room s m args below meth c s.heap [] 0 0 (tx_MQ below Qc XC args s mc ms free) (entryFrame m args maxL)) : tx_Met l y ws rm Pc Qc XC mc ms free := by
  refine MetFree.of_bodyS (code := cc) (maxLocals := maxL) (ret := ret) hy ?_ ?_
  · intro args s m h hn
    obtain ⟨meth, c, h1, h2, h3, h4, h5, h6, -, -⟩ := Cond.code_spec hn (atoms_spec (ws := ws) h _ (by rw [hw]; exact List.mem_cons_self))
    exact ⟨meth, c, h1, h2, h3, h4, h5, h6⟩
  · intro p e s m args below meth c s₁ B hml hP _
    have hh0 : s₁.heap = s.heap := by rw [B.state]; rfl
    have ht : ∀ x ∈ c.exceptionTable.toList, False := by
      obtain ⟨meth9, c9, h1, h2, -, -, -, -, h7, -⟩ := Cond.code_spec B.named (atoms_spec (ws := ws) B.pre _ (by rw [hw]; exact List.mem_cons_self))
      cases Option.some.inj (h1.symm.trans B.method)
      cases Option.some.inj (h2.symm.trans (Stand.of_body B).code)
      intro x hx
      rw [Array.isEmpty_iff.mp h7] at hx
      cases hx
    obtain ⟨t, a1, o, b1, b2, b3⟩ := body p e s m args below meth c s₁ B hml ht hP s₁ hh0 (Stand.of_body B)
    exact ⟨t, o, a1, b1, b2, b3⟩
end Bodies
end TXA
/-- which exception: by its number -/
def ty_exc : Nat → String
  | 0 => "java/lang/IndexOutOfBoundsException"
  | 1 => "java/lang/IllegalStateException"
  | _ => "java/lang/IllegalArgumentException"
abbrev ty_up2 : List String := ["java/lang/RuntimeException", "java/lang/Exception"]
/-- the texts of the exceptions, by their places in the pool -/
def ty_strs : List (Nat × String) := [(32, "a length is 1 .. 40"), (45, "there are 0 .. 12 of each"), (102, "0 .. 100 steps are done"), (136, "there is no such car in the train"), (160, "there is no such place"), (190, "there is no such register"), (195, "there is no such car"), (197, "nothing is told by this number"), (201, "the register holds none"), (204, "there is no such reference"), (206, "there is no such number"), (211, "there is no such train")]
/-- the words of a throw that aren't kept by their form alone -/
def ty_xw : List Cond := [.castable "java/lang/IndexOutOfBoundsException" "java/lang/IndexOutOfBoundsException", .castable "java/lang/IllegalStateException" "java/lang/IllegalStateException", .castable "java/lang/IllegalArgumentException" "java/lang/IllegalArgumentException", .declares (Bundle.initS "java/lang/RuntimeException"), .declares (Bundle.initS "java/lang/Exception"), .declares (Bundle.initS "java/lang/Throwable")]
theorem ty_xw_tab : ty_xw.all (fun w => w.onTables) = true := by decide +kernel
def ty_isXw (w : Cond) : Bool := match w with
  | .castable _ _ => true
  | .declares _ => true
  | _ => false
theorem ty_xw_is : ty_xw.all ty_isXw = true := by decide +kernel
theorem ty_xw_warm {s U : State} (hW : s.WarmedH U.vm) (h : ∀ w ∈ ty_xw, va_Nw w s) : ∀ w ∈ ty_xw, va_Nw w U := by
  intro w hw
  have h1 := List.all_eq_true.mp ty_xw_is w hw
  have h2 := h w hw
  cases w <;> first | (exact va_Nw.warmC hW h2) | (exact va_Nw.warmD hW h2) | (simp [ty_isXw] at h1)
/-- what throwing asks of the start: two statics of Throwable's, the texts, the casts -/
def tx_Z (A : Nat → Prop) (U : State) (H : Heap) : Prop := vx_Zq Bundle.tN "UNASSIGNED_STACK" Bundle.steD A U H ∧ vx_Zq Bundle.tN "SUPPRESSED_SENTINEL" Bundle.listD A U H ∧ (∀ x ∈ ty_strs, ∃ sa, vk_R RX4 x.1 x.2 sa U) ∧ ∀ w ∈ ty_xw, va_Nw w U
theorem tx_Z.kept {A : Nat → Prop} {U : State} {H H1 : Heap} (h : tx_Z A U H) (hq : ∀ a : Nat, a < H.size → ¬ A a → H1[a]? = H[a]?) : tx_Z A U H1 := ⟨h.1.kept hq, h.2.1.kept hq, h.2.2⟩
theorem tx_Z.narrow {A B : Nat → Prop} {U : State} {H : Heap} (h : tx_Z A U H) (hAB : ∀ q, B q → A q) : tx_Z B U H := ⟨h.1.narrow hAB, h.2.1.narrow hAB, h.2.2⟩
theorem tx_Z.warm {A : Nat → Prop} {s U : State} {H : Heap} (hW : s.WarmedH U.vm) (h : tx_Z A s H) : tx_Z A U H := ⟨vx_Zq.moved hW.alike h.1, vx_Zq.moved hW.alike h.2.1, fun x hx => by
  obtain ⟨sa, hs⟩ := h.2.2.1 x hx
  exact ⟨sa, hs.warm hW⟩, ty_xw_warm hW h.2.2.2⟩
theorem tx_Z.same {A : Nat → Prop} {s U : State} {H : Heap} (hv : s.vm = U.vm) (h : tx_Z A s H) : tx_Z A U H := ⟨vx_Zq.moved (by rw [hv]; exact Vm.Alike.refl _) h.1, vx_Zq.moved (by rw [hv]; exact Vm.Alike.refl _) h.2.1, fun x hx => by
  obtain ⟨sa, hs⟩ := h.2.2.1 x hx
  exact ⟨sa, hs.same hv.symm⟩, fun w hw => va_Nw.same (List.all_eq_true.mp ty_xw_tab w hw) hv (h.2.2.2 w hw)⟩
/-- what a throwing method's body knows beside ty_X -/
def tx_X (l : Launch) (q : Nat → Nat) (Lay : List ty_E) (s : State) (c : Code) : Prop := l.stackTraces = false ∧ (∀ x ∈ c.exceptionTable.toList, False) ∧ tx_Z (ty_A q Lay.length s.heap.size) s s.heap
def tx_XC (D : va_G) (cA : Nat → ClassId) (q : Nat → Nat) (Lay : List ty_E) (sz : Nat) (KX : Nat → ty_S → Prop) : String → State → State → Prop := vx_X (S := Nat × ty_S) (fun u => KX u.1 u.2 ∧ u.1 < 3) (fun E u t => E = ty_exc u.1 ∧ ty_B D cA q Lay sz u.2 t) (ty_A q Lay.length sz)
def tx_Pc (D : va_G) (cA : Nat → ClassId) (q : Nat → Nat) (Lay : List ty_E) (S : ty_S) (sz : Nat) (av : List Value) : Array Value → State → Prop := va_Pc av (fun U => U.heap.size = sz ∧ va_P D vwCl (ty_W cA q Lay S) U.heap ∧ va_K D vwCl (ty_tys cA) U ∧ va_D (fun _ => True) (ty_W cA q Lay S) ∧ ty_N U ∧ tx_Z (ty_A q Lay.length U.heap.size) U U.heap)
abbrev tx_MI (D : va_G) (cA : Nat → ClassId) (q : Nat → Nat) (Lay : List ty_E) (K : ty_S → Int32 → Prop) (KX : Nat → ty_S → Prop) (below : List Frame) (args : Array Value) (s : State) : State → Prop := tx_MQ below (ty_Qi D cA q Lay s.heap.size K) (tx_XC D cA q Lay s.heap.size KX) args s 1 6 (ty_A q Lay.length s.heap.size)
abbrev tx_MV (D : va_G) (cA : Nat → ClassId) (q : Nat → Nat) (Lay : List ty_E) (K : ty_S → Prop) (KX : Nat → ty_S → Prop) (below : List Frame) (args : Array Value) (s : State) : State → Prop := tx_MQ below (ty_Qv D cA q Lay s.heap.size K) (tx_XC D cA q Lay s.heap.size KX) args s 1 6 (ty_A q Lay.length s.heap.size)
section TXR
variable {p : Program} {l : Launch} {e : Env} {R : Room} {s : State} {m : MethodId} {args : Array Value} {below : List Frame} {meth : Method} {c : Code} {H : Heap} {locs : List Loc} {Q : State → Prop}
variable {D : va_G} {cA : Nat → ClassId} {q : Nat → Nat} {Lay : List ty_E} {S : ty_S} {cc : ByteArray} {nL : Nat} {ret : Option FieldType} {Ts : List Cond} {own : String} {pc : Nat} {ls : Array Slot} {rest : List Value} {Qc : Array Value → State → Outcome → State → Prop} {KX : Nat → ty_S → Prop}
theorem tx_iret {K : ty_S → Int32 → Prop} (X : ty_X D cA p s m args meth c cc nL (some .int) Ts own) (Y : ty_Y D cA q Lay S s H locs) {v : Int32} (h : K S v) (hdg : decode cc pc = .ok (.ireturn, 1)) : W p l e R s m args below meth c H locs 0 0 (tx_MI D cA q Lay K KX below args s) (F0 m pc ls [.int v]) := tx_ret (ty_iret X Y h hdg)
theorem tx_vret {K : ty_S → Prop} (X : ty_X D cA p s m args meth c cc nL none Ts own) (Y : ty_Y D cA q Lay S s H locs) (h : K S) (hdg : decode cc pc = .ok (.return_, 1)) : W p l e R s m args below meth c H locs 0 0 (tx_MV D cA q Lay K KX below args s) (F0 m pc ls []) := tx_ret (ty_vret X Y h hdg)
/-- 'throw new E("text")' -/
theorem tx_throw (X : ty_X D cA p s m args meth c cc nL ret Ts RX4) (Z : tx_X l q Lay s c) (Y : ty_Y D cA q Lay S s H locs) (k : Nat) (hk3 : k < 3) {ik is ic : Nat} {cls text : String} (hcl : ty_exc k = cls) (hk : Cond.classLink RX4 ik cls ∈ Ts) (hini : Cond.initialized cls ∈ Ts) (hstr : (is, text) ∈ ty_strs) (hat : ∀ w ∈ (vx_atS RX4 ic cls ty_up2).filter goodWord, w ∈ Ts) (hng : ∀ w ∈ (vx_atS RX4 ic cls ty_up2).filter (fun w => !goodWord w), w ∈ ty_xw) (hfit : Bundle.fit cls = true)
    (hgood : ∀ w ∈ Cond.classLink RX4 ik cls :: Cond.initialized cls :: vx_atS RX4 ic cls ty_up2, vx_ot w = true) (hsize : ls.size = nL) (d0 : decode cc pc = .ok (.new ik, 3)) (d3 : decode cc (pc + 3) = .ok (.dup, 1)) (d4 : decode cc (pc + 4) = .ok (.ldc is, 2)) (d6 : decode cc (pc + 6) = .ok (.invokespecial ic, 3)) (d9 : decode cc (pc + 9) = .ok (.athrow, 1))
    (hRf : 5 < R.frames) (hRl : (rest.map fun v => v.category).sum + 82 ≤ R.locals) (hRc : 1 ≤ R.cells) (hRs : 6 ≤ R.slots) (h : KX k S) : W p l e R s m args below meth c H locs 0 0 (tx_MQ below Qc (tx_XC D cA q Lay s.heap.size KX) args s 1 6 (ty_A q Lay.length s.heap.size)) (F0 m pc ls rest) := by
  obtain ⟨⟨hx, hb, hml, hown, hts⟩, hK, hr, hlo, hN⟩ := X
  obtain ⟨hst, hno, hU, hS0, hstrs, hcs⟩ := Z
  obtain ⟨sa, hsa⟩ := hstrs _ hstr
  subst hcl
  refine tx_thr (vx_throwS (names := ty_up2) (sa := sa) (A := ty_A q Lay.length s.heap.size) hx hb hst hown hfit (by decide +kernel) (hts _ hk) (hts _ hini) hsa ?_ hgood hU hS0 Y.2.2 (by rw [hml]; exact hsize) d0 d3 d4 d6 d9 (fun x hx => False.elim (hno x hx)) hRf hRl (by omega) (by omega) hlo ?_ Y.2.2.2.2 (Nat.le_refl _) (Nat.le_refl _))
  · exact vx_hat (B := ty_xw) (fun w hw => hts w (hat w hw)) hng (fun w hw => va_Nw.use (List.all_eq_true.mp ty_xw_tab w hw) (hcs w hw))
  · intro t hvm hsz hq
    refine ⟨(k, S), ⟨h, hk3⟩, ⟨rfl, fun i x hi => ?_, va_K.moved hvm hK, Y.2.1⟩, Nat.le_trans Y.2.2.1 hsz, fun a ha hna => by rw [hq a (Nat.lt_of_lt_of_le ha Y.2.2.1)]; exact Y.2.2.2.1 a ha hna⟩
    exact (Y.1 i x hi).kept (hq x.1 (Y.1 i x hi).lt)
/-- the start of a throwing contract, in a call -/
theorem tx_pre {av : List Value} (X : ty_X D cA p s m args meth c cc nL ret Ts own) (Y : ty_Y D cA q Lay S s H locs) (hZ : tx_Z (ty_A q Lay.length s.heap.size) s s.heap) : FrameBlind (tx_Pc D cA q Lay S H.size av) ∧ ∀ U : State, U.heap = H → s.WarmedH U.vm → tx_Pc D cA q Lay S H.size av av.toArray U := by
  obtain ⟨-, hK, -, -, hN⟩ := X
  refine ⟨fun a U g mk h => ?_, fun U hU hW => ⟨rfl, by rw [hU], by rw [hU]; exact Y.1, va_K.moved hW.alike hK, Y.2.1.weaken (fun _ _ _ _ => trivial), hN.warm hW, ?_⟩⟩
  · obtain ⟨q0, q1, qP, qK, qD, qN, qZ⟩ := h
    exact ⟨q0, q1, qP, va_K.moved (u := U) (U := U.calling g mk a) (Vm.Alike.refl U.vm) qK, qD, ty_N.same (u := U) (U := U.calling g mk a) rfl qN, tx_Z.same (s := U) (U := U.calling g mk a) rfl qZ⟩
  · rw [hU]
    exact ((hZ.kept (fun a ha hna => Y.2.2.2.1 a ha hna)).narrow (ty_Ain Y)).warm hW
variable {y : MethodName} {bytes : ByteArray} {maxL index n : Nat} {ret' : Option FieldType} {ws : List Cond} {rm : Room} {C : String} {As : List Value} {b : Nat}
/-- what a callee threw goes on to the caller -/
theorem tx_on {H1 : Heap} {locs1 : List Loc} {E : String} {ce : Cell} {q9 : Addr} {u : Nat × ty_S} {t : State} (X : ty_X D cA p s m args meth c cc nL ret Ts own) (Z : tx_X l q Lay s c) (Y : ty_Y D cA q Lay S s H locs) (ht : t.heap = H1) (hvm : s.vm.Alike t.vm) (hp : KX u.1 u.2 ∧ u.1 < 3) (hB : E = ty_exc u.1 ∧ ty_B D cA q Lay H.size u.2 t) (hS : va_S (ty_A q Lay.length s.heap.size) s.heap H1 locs1) (hc : H1[q9]? = some ce) (hv : ce.vm = .none) (hcl : s.vm.findClass E = some ce.cls) : vx_W p l e R s m args below meth c H1 locs1 1 6 (tx_MQ below Qc (tx_XC D cA q Lay s.heap.size KX) args s 1 6 (ty_A q Lay.length s.heap.size)) (F0 m pc ls rest) q9 := by
  obtain ⟨⟨hx, hb, hml, hown, hts⟩, hK, hr, hlo, hN⟩ := X
  have Y1 : ty_Y D cA q Lay u.2 s H1 locs1 := ty_back Y ht hB.2 hS
  refine tx_thrW (vx_out (fun x hx => False.elim (Z.2.1 x hx)) hlo hc hv hcl (fun t2 ht2 hvm2 => ?_) hS.2.2 (Nat.le_refl _) (Nat.le_refl _))
  refine ⟨u, hp, ⟨hB.1, by rw [ht2]; exact Y1.1, va_K.moved hvm2 hK, Y1.2.1⟩, Y1.2.2.F ht2⟩
theorem tx_Vi {K : ty_S → Int32 → Prop} (X : ty_X D cA p s m args meth c cc nL ret Ts own) (Z : tx_X l q Lay s c) (Y : ty_Y D cA q Lay S s H locs) (hM : ∀ sz, tx_Met l y ws rm (tx_Pc D cA q Lay S sz (.ref (q b) :: As)) (ty_Qi D cA q Lay sz K) (tx_XC D cA q Lay sz KX) 1 6 (ty_A q Lay.length sz))
    {ci N : Nat} {fs : List (Nat ⊕ Nat)} {T : u_T} (ho : Lay[b]? = some (.inl (ci, fs))) (hc : vwCl[ci]? = some (C, T, N))
    (cw : (∀ w ∈ Ts, w.before args s = true) → CallW R s args own C index y bytes maxL ret' ws rm 1 6 n) (hn : As.length = n) (hsize : ls.size = nL) (hW : (rest.map fun v => v.category).sum ≤ 8) (hdg : decode cc pc = .ok (.invokevirtual index, 3)) (hf : 1 ≤ R.cells ∧ 6 ≤ R.slots)
    (kk : ∀ (r : Int32) (S' : ty_S) (H1 : Heap) (locs1 : List Loc), K S' r → ty_Y D cA q Lay S' s H1 locs1 → W p l e R s m args below meth c H1 locs1 0 0 (tx_MQ below Qc (tx_XC D cA q Lay s.heap.size KX) args s 1 6 (ty_A q Lay.length s.heap.size)) (F0 m (pc + 3) ls (.int r :: rest))) : W p l e R s m args below meth c H locs 0 0 (tx_MQ below Qc (tx_XC D cA q Lay s.heap.size KX) args s 1 6 (ty_A q Lay.length s.heap.size)) (F0 m pc ls (As.reverse ++ .ref (q b) :: rest)) := by
  obtain ⟨hbl, hpre⟩ := tx_pre (av := .ref (q b) :: As) X Y Z.2.2
  refine tx_calli (A1 := ty_A q Lay.length H.size) (AX := ty_A q Lay.length H.size) (tx_runV X.1 (hM H.size) (cw X.1.2.2.2.2) ⟨hbl, va_recv (q0 := b) X.2.1 Y.1 hc (ty_W_at ho), hpre⟩ rfl hn hsize rfl (lv_room hW) hdg (by omega)) Y.2.2 (fun a _ h => ty_Ain Y a h) (ty_Ain Y) (fun a _ h => ty_Ain Y a h) (fun E ce q9 u t H1 locs1 ht hvm hp hB hz hk hS hc hv hcl => ?_) (fun r u t H1 locs1 ht hvm hw hB hz hk hS => ?_)
  · exact tx_on X Z Y ht hvm hp hB hS hc hv hcl
  · exact kk r u H1 locs1 hw (ty_back Y ht hB hS)
theorem tx_Si {K : ty_S → Int32 → Prop} (X : ty_X D cA p s m args meth c cc nL ret Ts own) (Z : tx_X l q Lay s c) (Y : ty_Y D cA q Lay S s H locs) (hM : ∀ sz, tx_Met l y ws rm (tx_Pc D cA q Lay S sz As) (ty_Qi D cA q Lay sz K) (tx_XC D cA q Lay sz KX) 1 6 (ty_A q Lay.length sz))
    (cw : (∀ w ∈ Ts, w.before args s = true) → CallB R s args own index y bytes maxL ret' ws rm 1 6 n ∧ (Cond.static y).before args s = true) (hn : As.length = n) (hsize : ls.size = nL) (hW : (rest.map fun v => v.category).sum ≤ 8) (hdg : decode cc pc = .ok (.invokestatic index, 3)) (hf : 1 ≤ R.cells ∧ 6 ≤ R.slots)
    (kk : ∀ (r : Int32) (S' : ty_S) (H1 : Heap) (locs1 : List Loc), K S' r → ty_Y D cA q Lay S' s H1 locs1 → W p l e R s m args below meth c H1 locs1 0 0 (tx_MQ below Qc (tx_XC D cA q Lay s.heap.size KX) args s 1 6 (ty_A q Lay.length s.heap.size)) (F0 m (pc + 3) ls (.int r :: rest))) : W p l e R s m args below meth c H locs 0 0 (tx_MQ below Qc (tx_XC D cA q Lay s.heap.size KX) args s 1 6 (ty_A q Lay.length s.heap.size)) (F0 m pc ls (As.reverse ++ rest)) := by
  obtain ⟨hbl, hpre⟩ := tx_pre (av := As) X Y Z.2.2
  refine tx_calli (A1 := ty_A q Lay.length H.size) (AX := ty_A q Lay.length H.size) (tx_runS X.1 (hM H.size) (cw X.1.2.2.2.2) ⟨hbl, hpre⟩ rfl hn hsize rfl (lv_room hW) hdg (by omega)) Y.2.2 (fun a _ h => ty_Ain Y a h) (ty_Ain Y) (fun a _ h => ty_Ain Y a h) (fun E ce q9 u t H1 locs1 ht hvm hp hB hz hk hS hc hv hcl => ?_) (fun r u t H1 locs1 ht hvm hw hB hz hk hS => ?_)
  · exact tx_on X Z Y ht hvm hp hB hS hc hv hcl
  · exact kk r u H1 locs1 hw (ty_back Y ht hB hS)
theorem tx_Sv {K : ty_S → Prop} (X : ty_X D cA p s m args meth c cc nL ret Ts own) (Z : tx_X l q Lay s c) (Y : ty_Y D cA q Lay S s H locs) (hM : ∀ sz, tx_Met l y ws rm (tx_Pc D cA q Lay S sz As) (ty_Qv D cA q Lay sz K) (tx_XC D cA q Lay sz KX) 1 6 (ty_A q Lay.length sz))
    (cw : (∀ w ∈ Ts, w.before args s = true) → CallB R s args own index y bytes maxL ret' ws rm 1 6 n ∧ (Cond.static y).before args s = true) (hn : As.length = n) (hsize : ls.size = nL) (hW : (rest.map fun v => v.category).sum ≤ 8) (hdg : decode cc pc = .ok (.invokestatic index, 3)) (hf : 1 ≤ R.cells ∧ 6 ≤ R.slots)
    (kk : ∀ (S' : ty_S) (H1 : Heap) (locs1 : List Loc), K S' → ty_Y D cA q Lay S' s H1 locs1 → W p l e R s m args below meth c H1 locs1 0 0 (tx_MQ below Qc (tx_XC D cA q Lay s.heap.size KX) args s 1 6 (ty_A q Lay.length s.heap.size)) (F0 m (pc + 3) ls rest)) : W p l e R s m args below meth c H locs 0 0 (tx_MQ below Qc (tx_XC D cA q Lay s.heap.size KX) args s 1 6 (ty_A q Lay.length s.heap.size)) (F0 m pc ls (As.reverse ++ rest)) := by
  obtain ⟨hbl, hpre⟩ := tx_pre (av := As) X Y Z.2.2
  refine tx_callv (A1 := ty_A q Lay.length H.size) (AX := ty_A q Lay.length H.size) (tx_runS X.1 (hM H.size) (cw X.1.2.2.2.2) ⟨hbl, hpre⟩ rfl hn hsize rfl (lv_room hW) hdg (by omega)) Y.2.2 (fun a _ h => ty_Ain Y a h) (ty_Ain Y) (fun a _ h => ty_Ain Y a h) (fun E ce q9 u t H1 locs1 ht hvm hp hB hz hk hS hc hv hcl => ?_) (fun u t H1 locs1 ht hvm hw hB hz hk hS => ?_)
  · exact tx_on X Z Y ht hvm hp hB hS hc hv hcl
  · exact kk u H1 locs1 hw (ty_back Y ht hB hS)
end TXR
/-- a throwing contract out of a walk -/
theorem tx_ofM {l : Launch} (hst : l.stackTraces = false) {y : MethodName} {ws ws' : List Cond} {rm : Room} {cc : ByteArray} {maxL : Nat} {ret : Option FieldType} {D : va_G} {cA : Nat → ClassId} {q : Nat → Nat} {Lay : List ty_E} {S : ty_S} {av : List Value} {own : String} {Qc : Nat → Array Value → State → Outcome → State → Prop} {XC : Nat → String → State → State → Prop} (hy : plainName y.cls = true) (hw : ws = Cond.code y cc maxL ret :: ws') (hlen : (lg_sl av).length ≤ maxL) (hown : y.cls = own)
    (body : ∀ (p : Program) (e : Env) (s : State) (m : MethodId) (args : Array Value) (below : List Frame) (meth : Method) (c : Code) (ls : Array Slot), ty_X D cA p s m args meth c cc maxL ret ws own → tx_X l q Lay s c → lv_has ls maxL (lv_args 0 av) → ty_Y D cA q Lay S s s.heap [] →
      W p l e rm s m args below meth c s.heap [] 0 0 (tx_MQ below (Qc s.heap.size) (XC s.heap.size) args s 1 6 (ty_A q Lay.length s.heap.size)) (F0 m 0 ls [])) (sz : Nat) : tx_Met l y ws rm (tx_Pc D cA q Lay S sz av) (Qc sz) (XC sz) 1 6 (ty_A q Lay.length sz) := by
  refine tx_ofW (cc := cc) (maxL := maxL) (ret := ret) hy hw ?_
  intro p e s m args below meth c s₁ B hml htab hv
  obtain ⟨rfl, hsz, hP, hK, hD0, hN, hZ⟩ := hv
  have hts := atoms_spec (ws := ws) B.pre
  have hn : s.vm.findClass y.cls = some m.cls := findClass_of_methodNamed B.named
  subst hown
  subst hsz
  rw [lg_entry_eq]
  have hl := lv_entry av (n := maxL) hlen
  generalize (lg_sl av ++ List.replicate (maxL - (lg_sl av).length) Slot.unset).toArray = ls at hl ⊢
  exact body p e s m _ below meth c ls ⟨⟨B.exec, B.bytes, hml, hn, hts⟩, hK, B.returns, B.notSynchronized, hN⟩ ⟨hst, htab, hZ⟩ hl ⟨hP, ty_D_self _ hD0, va_S.rf⟩
