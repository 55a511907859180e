/-! ROWS OVER A WORLD: a step of the walk each -/
theorem ty_t {c A B : Prop} {i : Decidable c} (h : @ite Prop c i A B) (hc : c) : A := by rw [if_pos hc] at h; exact h
theorem ty_f {c A B : Prop} {i : Decidable c} (h : @ite Prop c i A B) (hc : ¬ c) : B := by rw [if_neg hc] at h; exact h
theorem ty_m {α : Type} {l : List α} {a : α} (i : Nat) (h : l[i]? = some a) : a ∈ l := List.mem_of_getElem? h
/-- the words of private members of nest mates -/
def ty_nest : List Cond := [Cond.methodLinkNest RX3 11 yX0_init "TrainYard", Cond.methodLinkNest RX3 20 yX1_init "TrainYard", Cond.fieldLinkNest RX4 51 "TrainYard$Row" "count" "I" "TrainYard", Cond.fieldLinkNest RX3 89 "TrainYard$Row" "count" "I" "TrainYard", Cond.fieldLinkNest RX4 187 "TrainYard$Row" "trainsMade" "I" "TrainYard", Cond.fieldLinkNest RX4 75 "TrainYard$Yard" "freight" "LTrainYard$Freight;" "TrainYard", Cond.fieldLinkNest RX4 47 "TrainYard$Yard" "row" "LTrainYard$Row;" "TrainYard", Cond.fieldLinkNest RX4 71 "TrainYard$Yard" "held" "[I" "TrainYard", Cond.fieldLinkNest RX4 172 "TrainYard$Yard" "steps" "I" "TrainYard", Cond.fieldLinkNest RX4 175 "TrainYard$Yard" "wholeTrains" "I" "TrainYard", Cond.fieldLinkNest RX4 178 "TrainYard$Yard" "thingsGone" "I" "TrainYard", Cond.fieldLinkNest RX4 181 "TrainYard$Yard" "thingsMoved" "I" "TrainYard", Cond.fieldLinkNest RX4 184 "TrainYard$Yard" "wordsMoved" "I" "TrainYard", Cond.methodLinkNest RX4 18 yX2_init "TrainYard", Cond.methodLinkNest RX3 82 yX4_carOf "TrainYard", Cond.methodLinkNest RX0 32 yX4_isCar "TrainYard", Cond.methodLinkNest RX1 42 yX4_isCar "TrainYard", Cond.methodLinkNest RX2 38 yX4_isPlace "TrainYard"]
def ty_N (U : State) : Prop := ∀ w ∈ ty_nest, va_Nw w U
theorem ty_nest_tab : ty_nest.all (fun w => w.onTables) = true := by decide +kernel
def ty_isN (w : Cond) : Bool := match w with
  | .fieldLinkNest _ _ _ _ _ _ => true
  | .methodLinkNest _ _ _ _ => true
  | _ => false
theorem ty_nest_is : ty_nest.all ty_isN = true := by decide +kernel
theorem ty_N.warm {s U : State} (hW : s.WarmedH U.vm) (h : ty_N s) : ty_N U := by
  intro w hw
  have h1 := List.all_eq_true.mp ty_nest_is w hw
  have h2 := h w hw
  cases w <;> first | (exact va_Nw.warmF hW h2) | (exact va_Nw.warmM hW h2) | (simp [ty_isN] at h1)
theorem ty_N.same {u U : State} (hv : u.vm = U.vm) (h : ty_N u) : ty_N U := by
  intro w hw
  exact va_Nw.same (List.all_eq_true.mp ty_nest_tab w hw) hv (h w hw)
/-- the world behind a method -/
def ty_B (D : va_G) (cA : Nat → ClassId) (q : Nat → Nat) (Lay : List ty_E) (sz : Nat) (S : ty_S) (t : State) : Prop := va_P D vwCl (ty_W cA q Lay S) t.heap ∧ va_K D vwCl (ty_tys cA) t ∧ va_D (ty_A q Lay.length sz) (ty_W cA q Lay S)
/-- a contract's start -/
def ty_Pc (D : va_G) (cA : Nat → ClassId) (q : Nat → Nat) (Lay : List ty_E) (S : ty_S) (sz : Nat) (av : List Value) : Array Value → State → Prop := va_Pc av (fun U => U.heap.size = sz ∧ va_P D vwCl (ty_W cA q Lay S) U.heap ∧ va_K D vwCl (ty_tys cA) U ∧ va_D (fun _ => True) (ty_W cA q Lay S) ∧ ty_N U)
def ty_Qi (D : va_G) (cA : Nat → ClassId) (q : Nat → Nat) (Lay : List ty_E) (sz : Nat) (K : ty_S → Int32 → Prop) : Array Value → State → Outcome → State → Prop := va_Qi (S := ty_S) (fun r u => K u r) (fun u t => ty_B D cA q Lay sz u t) (ty_A q Lay.length sz)
def ty_Qv (D : va_G) (cA : Nat → ClassId) (q : Nat → Nat) (Lay : List ty_E) (sz : Nat) (K : ty_S → Prop) : Array Value → State → Outcome → State → Prop := va_Qv (S := ty_S) (fun u => K u) (fun u t => ty_B D cA q Lay sz u t) (ty_A q Lay.length sz)
abbrev ty_MI (D : va_G) (cA : Nat → ClassId) (q : Nat → Nat) (Lay : List ty_E) (K : ty_S → Int32 → Prop) (below : List Frame) (args : Array Value) (s : State) : State → Prop := MQ below (ty_Qi D cA q Lay s.heap.size K) args s 0 0 (ty_A q Lay.length s.heap.size)
abbrev ty_MV (D : va_G) (cA : Nat → ClassId) (q : Nat → Nat) (Lay : List ty_E) (K : ty_S → Prop) (below : List Frame) (args : Array Value) (s : State) : State → Prop := MQ below (ty_Qv D cA q Lay s.heap.size K) args s 0 0 (ty_A q Lay.length s.heap.size)
/-- what a method's body knows of the machine -/
def ty_X (D : va_G) (cA : Nat → ClassId) (p : Program) (s : State) (m : MethodId) (args : Array Value) (meth : Method) (c : Code) (cc : ByteArray) (nL : Nat) (ret : Option FieldType) (Ts : List Cond) (own : String) : Prop :=
  CallFix p m c cc nL s args Ts own ∧ va_K D vwCl (ty_tys cA) s ∧ meth.sig.returnType = ret ∧ meth.locks = false ∧ ty_N s
/-- what it knows of the world -/
def ty_Y (D : va_G) (cA : Nat → ClassId) (q : Nat → Nat) (Lay : List ty_E) (S : ty_S) (s : State) (H : Heap) (locs : List Loc) : Prop :=
  va_P D vwCl (ty_W cA q Lay S) H ∧ va_D (ty_A q Lay.length s.heap.size) (ty_W cA q Lay S) ∧ va_S (ty_A q Lay.length s.heap.size) s.heap H locs
section TYR
variable {p : Program} {l : Launch} {e : Env} {R : Room} {s : State} {m : MethodId} {args : Array Value} {below : List Frame} {meth : Method} {c : Code} {H : Heap} {locs : List Loc} {cells slots : Nat} {Q : State → Prop}
variable {D : va_G} {cA : Nat → ClassId} {q : Nat → Nat} {Lay : List ty_E} {S : ty_S} {cc : ByteArray} {nL : Nat} {ret : Option FieldType} {Ts : List Cond} {own : String} {pc : Nat} {ls : Array Slot} {rest : List Value}
theorem ty_get (X : ty_X D cA p s m args meth c cc nL ret Ts own) (Y : ty_Y D cA q Lay S s H locs) (o k : Nat) {ci N index : Nat} {fs : List (Nat ⊕ Nat)} {x : Nat ⊕ Nat} {C : String} {T : u_T} {ref nm ds : String} (ho : Lay[o]? = some (.inl (ci, fs))) (hk : fs[k]? = some x) (hc : vwCl[ci]? = some (C, T, N)) (hkN : k < N) (hT : (T k).1 = ref ∧ (T k).2.1 = nm ∧ (T k).2.2.1 = ds) (hin : ∀ w ∈ u_ws C T N, w ∈ Ts) (hlink : Cond.fieldLink own index ref nm ds ∈ Ts) {v : Value} (hv : ty_V q S x = v) (hdg : decode cc pc = .ok (.getfield index, 3))
    (kk : W p l e R s m args below meth c H locs cells slots Q (F0 m (pc + 3) ls (v :: rest))) : W p l e R s m args below meth c H locs cells slots Q (F0 m pc ls (.ref (q o) :: rest)) := by
  obtain ⟨⟨hx, hb, hml, hown, hts⟩, hK, hr, hlo, hN⟩ := X
  obtain ⟨rfl, rfl, rfl⟩ := hT
  exact va_get hx hb hts hin hown hK Y.1 o (ty_W_at ho) hc k hkN (hts _ hlink) (fun _ h => h) (by show (List.map _ fs)[k]? = _; rw [List.getElem?_map, hk]; show some _ = some _; rw [hv]) hdg kk
theorem ty_getN (X : ty_X D cA p s m args meth c cc nL ret Ts own) (Y : ty_Y D cA q Lay S s H locs) (o k : Nat) {ci N index : Nat} {fs : List (Nat ⊕ Nat)} {x : Nat ⊕ Nat} {C host : String} {T : u_T} {ref nm ds : String} (ho : Lay[o]? = some (.inl (ci, fs))) (hk : fs[k]? = some x) (hc : vwCl[ci]? = some (C, T, N)) (hkN : k < N) (hT : (T k).1 = ref ∧ (T k).2.1 = nm ∧ (T k).2.2.1 = ds) (hin : ∀ w ∈ u_ws C T N, w ∈ Ts) (hlink : Cond.fieldLinkNest own index ref nm ds host ∈ ty_nest) {v : Value} (hv : ty_V q S x = v) (hdg : decode cc pc = .ok (.getfield index, 3))
    (kk : W p l e R s m args below meth c H locs cells slots Q (F0 m (pc + 3) ls (v :: rest))) : W p l e R s m args below meth c H locs cells slots Q (F0 m pc ls (.ref (q o) :: rest)) := by
  obtain ⟨⟨hx, hb, hml, hown, hts⟩, hK, hr, hlo, hN⟩ := X
  obtain ⟨rfl, rfl, rfl⟩ := hT
  exact va_getN hx hb hts hin hown hK Y.1 o (ty_W_at ho) hc k hkN (va_Nw.use rfl (hN _ hlink)) (fun _ h => h) (by show (List.map _ fs)[k]? = _; rw [List.getElem?_map, hk]; show some _ = some _; rw [hv]) hdg kk
theorem ty_put (X : ty_X D cA p s m args meth c cc nL ret Ts own) (Y : ty_Y D cA q Lay S s H locs) (o k f : Nat) {ci N index : Nat} {fs : List (Nat ⊕ Nat)} {C : String} {T : u_T} {ref nm : String} (ty0 : Nat → FieldType) (ho : Lay[o]? = some (.inl (ci, fs))) (hk : fs[k]? = some (.inr f)) (hc : vwCl[ci]? = some (C, T, N)) (hkN : k < N) (hT : (T k).1 = ref ∧ (T k).2.1 = nm ∧ (T k).2.2.1 = "I" ∧ (T k).2.2.2 = false) (hty : ∀ k, k < N → parseFieldDescriptor (T k).2.2.1 = some (ty0 k)) (hnm : ∀ a, a < N → ∀ b, b < N → a ≠ b → (T a).2.1 ≠ (T b).2.1)
    (h1 : ty_one Lay f o = true) (h2 : ty_oneF fs f k = true) (hin : ∀ w ∈ u_ws C T N, w ∈ Ts) (hlink : Cond.fieldLink own index ref nm "I" ∈ Ts) {x : Int32} (hdg : decode cc pc = .ok (.putfield index, 3))
    (kk : ∀ (H1 : Heap) (locs1 : List Loc), ty_Y D cA q Lay (ty_st S f 0 x) s H1 locs1 → W p l e R s m args below meth c H1 locs1 cells slots Q (F0 m (pc + 3) ls rest)) : W p l e R s m args below meth c H locs cells slots Q (F0 m pc ls (.int x :: .ref (q o) :: rest)) := by
  obtain ⟨⟨hx, hb, hml, hown, hts⟩, hK, hr, hlo, hN⟩ := X
  obtain ⟨e1, e2, e3, e4⟩ := hT
  have hlink' : Cond.fieldLink own index (T k).1 (T k).2.1 (T k).2.2.1 ∈ Ts := by rw [e1, e2, e3]; exact hlink
  refine va_put (ty := .int) hx hb hts hin ty0 hty hnm hown hK Y.1 Y.2.1 Y.2.2 o (ty_W_at ho) hc k hkN (hts _ hlink') (fun _ h => h) e4 (by rw [e3]; decide +kernel) rfl rfl (by show k < (List.map _ fs).length; rw [List.length_map]; exact (List.getElem?_eq_some_iff.mp hk).1) hdg (fun H1 locs1 hP hD hS => ?_)
  rw [ty_W_put ho h1 hk h2] at hP hD
  exact kk H1 locs1 ⟨hP, hD, hS⟩
theorem ty_iald (X : ty_X D cA p s m args meth c cc nL ret Ts own) (Y : ty_Y D cA q Lay S s H locs) (o n f : Nat) (ho : Lay[o]? = some (.inr (n, 0, f))) {i v : Int32} (hin : vp_in i n) (hv : S f i.toNatClampNeg = v) (hdg : decode cc pc = .ok (.iaload, 1))
    (kk : W p l e R s m args below meth c H locs cells slots Q (F0 m (pc + 1) ls (.int v :: rest))) : W p l e R s m args below meth c H locs cells slots Q (F0 m pc ls (.int i :: .ref (q o) :: rest)) := by
  obtain ⟨⟨hx, hb, hml, hown, hts⟩, hK, hr, hlo, hN⟩ := X
  subst hv
  exact va_iald (f := S f) hx hb hK Y.1 o 0 (ty_W_at ho) rfl hin hdg kk
theorem ty_zald (X : ty_X D cA p s m args meth c cc nL ret Ts own) (Y : ty_Y D cA q Lay S s H locs) (o n f : Nat) (ho : Lay[o]? = some (.inr (n, 1, f))) {i v : Int32} (hin : vp_in i n) (hv : S f i.toNatClampNeg = v) (hdg : decode cc pc = .ok (.baload, 1))
    (kk : W p l e R s m args below meth c H locs cells slots Q (F0 m (pc + 1) ls (.int v :: rest))) : W p l e R s m args below meth c H locs cells slots Q (F0 m pc ls (.int i :: .ref (q o) :: rest)) := by
  obtain ⟨⟨hx, hb, hml, hown, hts⟩, hK, hr, hlo, hN⟩ := X
  subst hv
  exact va_zald (f := S f) hx hb hK Y.1 o 1 (ty_W_at ho) rfl hin hdg kk
theorem ty_iast (X : ty_X D cA p s m args meth c cc nL ret Ts own) (Y : ty_Y D cA q Lay S s H locs) (o n f : Nat) (ho : Lay[o]? = some (.inr (n, 0, f))) (h1 : ty_one Lay f o = true) {i x : Int32} (hin : vp_in i n) (hdg : decode cc pc = .ok (.iastore, 1))
    (kk : ∀ (H1 : Heap) (locs1 : List Loc), ty_Y D cA q Lay (ty_st S f i.toNatClampNeg x) s H1 locs1 → W p l e R s m args below meth c H1 locs1 cells slots Q (F0 m (pc + 1) ls rest)) : W p l e R s m args below meth c H locs cells slots Q (F0 m pc ls (.int x :: .int i :: .ref (q o) :: rest)) := by
  obtain ⟨⟨hx, hb, hml, hown, hts⟩, hK, hr, hlo, hN⟩ := X
  refine va_iast (f := S f) hx hb hK Y.1 Y.2.1 Y.2.2 o 0 (ty_W_at ho) rfl hin hdg (fun H1 locs1 hP hD hS => ?_)
  have ew := ty_W_arr (cA := cA) (q := q) ho h1 (S := S) (S' := ty_st S f i.toNatClampNeg x) (fun g hg => ty_st_n hg)
  have er : ty_R n 0 f (ty_st S f i.toNatClampNeg x) = (n, .inl (upd (S f) i.toNatClampNeg x)) := by
    show (n, Sum.inl _) = (n, Sum.inl _)
    rw [ty_st_s]
  rw [er] at ew
  rw [ew] at hP hD
  exact kk H1 locs1 ⟨hP, hD, hS⟩
theorem ty_zast (X : ty_X D cA p s m args meth c cc nL ret Ts own) (Y : ty_Y D cA q Lay S s H locs) (o n f : Nat) (ho : Lay[o]? = some (.inr (n, 1, f))) (h1 : ty_one Lay f o = true) {i x v : Int32} (hin : vp_in i n) (hv : vp_nar .boolean x = v) (hdg : decode cc pc = .ok (.bastore, 1))
    (kk : ∀ (H1 : Heap) (locs1 : List Loc), ty_Y D cA q Lay (ty_st S f i.toNatClampNeg v) s H1 locs1 → W p l e R s m args below meth c H1 locs1 cells slots Q (F0 m (pc + 1) ls rest)) : W p l e R s m args below meth c H locs cells slots Q (F0 m pc ls (.int x :: .int i :: .ref (q o) :: rest)) := by
  obtain ⟨⟨hx, hb, hml, hown, hts⟩, hK, hr, hlo, hN⟩ := X
  subst hv
  refine va_zast (f := S f) hx hb hK Y.1 Y.2.1 Y.2.2 o 1 (ty_W_at ho) rfl hin hdg (fun H1 locs1 hP hD hS => ?_)
  have ew := ty_W_arr (cA := cA) (q := q) ho h1 (S := S) (S' := ty_st S f i.toNatClampNeg (vp_nar .boolean x)) (fun g hg => ty_st_n hg)
  have er : ty_R n 1 f (ty_st S f i.toNatClampNeg (vp_nar .boolean x)) = (n, .inl (upd (S f) i.toNatClampNeg (vp_nar .boolean x))) := by
    show (n, Sum.inl _) = (n, Sum.inl _)
    rw [ty_st_s]
  rw [er] at ew
  rw [ew] at hP hD
  exact kk H1 locs1 ⟨hP, hD, hS⟩
theorem ty_last (X : ty_X D cA p s m args meth c cc nL ret Ts own) (Y : ty_Y D cA q Lay S s H locs) (o n f : Nat) (ho : Lay[o]? = some (.inr (n, 2, f))) (h1 : ty_one Lay f o = true) {i x : Int32} (hin : vp_in i n) (hdg : decode cc pc = .ok (.lastore, 1))
    (kk : ∀ (H1 : Heap) (locs1 : List Loc), ty_Y D cA q Lay (ty_st S f i.toNatClampNeg x) s H1 locs1 → W p l e R s m args below meth c H1 locs1 cells slots Q (F0 m (pc + 1) ls rest)) : W p l e R s m args below meth c H locs cells slots Q (F0 m pc ls (.long x.toInt64 :: .int i :: .ref (q o) :: rest)) := by
  obtain ⟨⟨hx, hb, hml, hown, hts⟩, hK, hr, hlo, hN⟩ := X
  refine va_last (f := fun j => (S f j).toInt64) hx hb hK Y.1 Y.2.1 Y.2.2 o 2 (ty_W_at ho) rfl hin hdg (fun H1 locs1 hP hD hS => ?_)
  have ew := ty_W_arr (cA := cA) (q := q) ho h1 (S := S) (S' := ty_st S f i.toNatClampNeg x) (fun g hg => ty_st_n hg)
  have er : ty_R n 2 f (ty_st S f i.toNatClampNeg x) = (n, .inr (.inl (vp_updL (fun j => (S f j).toInt64) i.toNatClampNeg x.toInt64))) := by
    show (n, Sum.inr (Sum.inl _)) = (n, Sum.inr (Sum.inl _))
    congr 3
    funext j
    rw [ty_st_s]
    unfold upd vp_updL
    by_cases hj : j = i.toNatClampNeg
    · rw [if_pos hj, if_pos hj]
    · rw [if_neg hj, if_neg hj]
  rw [er] at ew
  rw [ew] at hP hD
  exact kk H1 locs1 ⟨hP, hD, hS⟩
theorem ty_alen (X : ty_X D cA p s m args meth c cc nL ret Ts own) (Y : ty_Y D cA q Lay S s H locs) (o n f : Nat) (ho : Lay[o]? = some (.inr (n, 0, f))) {v : Int32} (hv : Int32.ofNat n = v) (hdg : decode cc pc = .ok (.arraylength, 1))
    (kk : W p l e R s m args below meth c H locs cells slots Q (F0 m (pc + 1) ls (.int v :: rest))) : W p l e R s m args below meth c H locs cells slots Q (F0 m pc ls (.ref (q o) :: rest)) := by
  obtain ⟨⟨hx, hb, hml, hown, hts⟩, hK, hr, hlo, hN⟩ := X
  exact va_alen hx hb hK Y.1 o 0 (ty_W_at ho) (ty := .int) rfl hv hdg kk
theorem ty_iret {K : ty_S → Int32 → Prop} (X : ty_X D cA p s m args meth c cc nL (some .int) Ts own) (Y : ty_Y D cA q Lay S s H locs) {v : Int32} (h : K S v) (hdg : decode cc pc = .ok (.ireturn, 1)) : W p l e R s m args below meth c H locs 0 0 (ty_MI D cA q Lay K below args s) (F0 m pc ls [.int v]) := by
  obtain ⟨⟨hx, hb, hml, hown, hts⟩, hK, hr, hlo, hN⟩ := X
  refine W.iret (hlocks := hlo) hx hb hr (fun t ht hW => ?_) Y.2.2.2.2 hdg
  exact ⟨⟨v, S, rfl, h, by rw [ht]; exact Y.1, va_K.moved hW.alike hK, Y.2.1⟩, Y.2.2.F ht⟩
theorem ty_zret {K : ty_S → Int32 → Prop} (X : ty_X D cA p s m args meth c cc nL (some .boolean) Ts own) (Y : ty_Y D cA q Lay S s H locs) {v : Int32} (h : K S v) (hn : narrow .boolean (.int v) = .int v) (hdg : decode cc pc = .ok (.ireturn, 1)) : W p l e R s m args below meth c H locs 0 0 (ty_MI D cA q Lay K below args s) (F0 m pc ls [.int v]) := by
  obtain ⟨⟨hx, hb, hml, hown, hts⟩, hK, hr, hlo, hN⟩ := X
  refine W.zret (hlocks := hlo) hx hb hr hn (fun t ht hW => ?_) Y.2.2.2.2 hdg
  exact ⟨⟨v, S, rfl, h, by rw [ht]; exact Y.1, va_K.moved hW.alike hK, Y.2.1⟩, Y.2.2.F ht⟩
theorem ty_vret {K : ty_S → Prop} (X : ty_X D cA p s m args meth c cc nL none Ts own) (Y : ty_Y D cA q Lay S s H locs) (h : K S) (hdg : decode cc pc = .ok (.return_, 1)) : W p l e R s m args below meth c H locs 0 0 (ty_MV D cA q Lay K below args s) (F0 m pc ls []) := by
  obtain ⟨⟨hx, hb, hml, hown, hts⟩, hK, hr, hlo, hN⟩ := X
  refine W.vret (hlocks := hlo) hx hb hr (fun t ht hW => ?_) Y.2.2.2.2 hdg
  exact ⟨⟨S, rfl, h, by rw [ht]; exact Y.1, va_K.moved hW.alike hK, Y.2.1⟩, Y.2.2.F ht⟩
/-- the start of a contract, in a call -/
theorem ty_pre {av : List Value} (X : ty_X D cA p s m args meth c cc nL ret Ts own) (Y : ty_Y D cA q Lay S s H locs) : FrameBlind (ty_Pc D cA q Lay S H.size av) ∧ ∀ U : State, U.heap = H → s.WarmedH U.vm → ty_Pc D cA q Lay S H.size av av.toArray U := by
  obtain ⟨-, hK, -, -, hN⟩ := X
  refine ⟨fun a U g mk h => ?_, fun U hU hW => ⟨rfl, by rw [hU], by rw [hU]; exact Y.1, va_K.moved hW.alike hK, Y.2.1.weaken (fun _ _ _ _ => trivial), hN.warm hW⟩⟩
  obtain ⟨q0, q1, qP, qK, qD, qN⟩ := h
  exact ⟨q0, q1, qP, va_K.moved (u := U) (U := U.calling g mk a) (Vm.Alike.refl U.vm) qK, qD, ty_N.same (u := U) (U := U.calling g mk a) rfl qN⟩
theorem ty_Ain (Y : ty_Y D cA q Lay S s H locs) : ∀ a, ty_A q Lay.length H.size a → ty_A q Lay.length s.heap.size a := by
  intro a h
  rcases h with h | h
  · exact Or.inl h
  · exact Or.inr (Nat.le_trans Y.2.2.1 h)
theorem ty_back {S' : ty_S} {t : State} {H1 : Heap} {locs1 : List Loc} (Y : ty_Y D cA q Lay S s H locs) (ht : t.heap = H1) (hB : ty_B D cA q Lay H.size S' t) (hS : va_S (ty_A q Lay.length s.heap.size) s.heap H1 locs1) : ty_Y D cA q Lay S' s H1 locs1 := by
  obtain ⟨hP, hK, hD⟩ := hB
  exact ⟨by rw [← ht]; exact hP, hD.weaken (fun k x _ h => ty_Ain Y _ h), hS⟩
variable {y : MethodName} {bytes : ByteArray} {maxL index n : Nat} {ret' : Option FieldType} {ws : List Cond} {rm : Room} {C : String} {As : List Value} {b : Nat}
/-- a call of a method of an object, that answers a number -/
theorem ty_Vi {K : ty_S → Int32 → Prop} (X : ty_X D cA p s m args meth c cc nL ret Ts own) (Y : ty_Y D cA q Lay S s H locs) (hM : ∀ sz, Met l y ws rm (ty_Pc D cA q Lay S sz (.ref (q b) :: As)) (ty_Qi D cA q Lay sz K) 0 0 (ty_A q Lay.length sz))
    {ci N : Nat} {fs : List (Nat ⊕ Nat)} {T : u_T} (ho : Lay[b]? = some (.inl (ci, fs))) (hc : vwCl[ci]? = some (C, T, N))
    (cw : (∀ w ∈ Ts, w.before args s = true) → CallW R s args own C index y bytes maxL ret' ws rm 0 0 n) (hn : As.length = n) (hsize : ls.size = nL) (hW : (rest.map fun v => v.category).sum ≤ 8) (hdg : decode cc pc = .ok (.invokevirtual index, 3)) (hf : cells ≤ R.cells ∧ slots ≤ R.slots)
    (kk : ∀ (r : Int32) (S' : ty_S) (H1 : Heap) (locs1 : List Loc), K S' r → ty_Y D cA q Lay S' s H1 locs1 → W p l e R s m args below meth c H1 locs1 cells slots Q (F0 m (pc + 3) ls (.int r :: rest))) : W p l e R s m args below meth c H locs cells slots Q (F0 m pc ls (As.reverse ++ .ref (q b) :: rest)) := by
  obtain ⟨hbl, hpre⟩ := ty_pre (av := .ref (q b) :: As) X Y
  refine va_calli (A1 := ty_A q Lay.length H.size) (va_runV X.1 (hM H.size) (cw X.1.2.2.2.2) ⟨hbl, va_recv (q0 := b) X.2.1 Y.1 hc (ty_W_at ho), hpre⟩ rfl hn hsize rfl (lv_room hW) hdg ⟨hf.1, hf.2⟩) Y.2.2 (fun a _ h => ty_Ain Y a h) (ty_Ain Y) (fun r u t H1 locs1 ht hvm hw hB hz hk hS => ?_)
  exact kk r u H1 locs1 hw (ty_back Y ht hB hS)
theorem ty_Vv {K : ty_S → Prop} (X : ty_X D cA p s m args meth c cc nL ret Ts own) (Y : ty_Y D cA q Lay S s H locs) (hM : ∀ sz, Met l y ws rm (ty_Pc D cA q Lay S sz (.ref (q b) :: As)) (ty_Qv D cA q Lay sz K) 0 0 (ty_A q Lay.length sz))
    {ci N : Nat} {fs : List (Nat ⊕ Nat)} {T : u_T} (ho : Lay[b]? = some (.inl (ci, fs))) (hc : vwCl[ci]? = some (C, T, N))
    (cw : (∀ w ∈ Ts, w.before args s = true) → CallW R s args own C index y bytes maxL ret' ws rm 0 0 n) (hn : As.length = n) (hsize : ls.size = nL) (hW : (rest.map fun v => v.category).sum ≤ 8) (hdg : decode cc pc = .ok (.invokevirtual index, 3)) (hf : cells ≤ R.cells ∧ slots ≤ R.slots)
    (kk : ∀ (S' : ty_S) (H1 : Heap) (locs1 : List Loc), K S' → ty_Y D cA q Lay S' s H1 locs1 → W p l e R s m args below meth c H1 locs1 cells slots Q (F0 m (pc + 3) ls rest)) : W p l e R s m args below meth c H locs cells slots Q (F0 m pc ls (As.reverse ++ .ref (q b) :: rest)) := by
  obtain ⟨hbl, hpre⟩ := ty_pre (av := .ref (q b) :: As) X Y
  refine va_callv (A1 := ty_A q Lay.length H.size) (va_runV X.1 (hM H.size) (cw X.1.2.2.2.2) ⟨hbl, va_recv (q0 := b) X.2.1 Y.1 hc (ty_W_at ho), hpre⟩ rfl hn hsize rfl (lv_room hW) hdg ⟨hf.1, hf.2⟩) Y.2.2 (fun a _ h => ty_Ain Y a h) (ty_Ain Y) (fun u t H1 locs1 ht hvm hw hB hz hk hS => ?_)
  exact kk u H1 locs1 hw (ty_back Y ht hB hS)
theorem ty_Si {K : ty_S → Int32 → Prop} (X : ty_X D cA p s m args meth c cc nL ret Ts own) (Y : ty_Y D cA q Lay S s H locs) (hM : ∀ sz, Met l y ws rm (ty_Pc D cA q Lay S sz As) (ty_Qi D cA q Lay sz K) 0 0 (ty_A q Lay.length sz))
    (cw : (∀ w ∈ Ts, w.before args s = true) → CallB R s args own index y bytes maxL ret' ws rm 0 0 n ∧ (Cond.static y).before args s = true) (hn : As.length = n) (hsize : ls.size = nL) (hW : (rest.map fun v => v.category).sum ≤ 8) (hdg : decode cc pc = .ok (.invokestatic index, 3)) (hf : cells ≤ R.cells ∧ slots ≤ R.slots)
    (kk : ∀ (r : Int32) (S' : ty_S) (H1 : Heap) (locs1 : List Loc), K S' r → ty_Y D cA q Lay S' s H1 locs1 → W p l e R s m args below meth c H1 locs1 cells slots Q (F0 m (pc + 3) ls (.int r :: rest))) : W p l e R s m args below meth c H locs cells slots Q (F0 m pc ls (As.reverse ++ rest)) := by
  obtain ⟨hbl, hpre⟩ := ty_pre (av := As) X Y
  refine va_calli (A1 := ty_A q Lay.length H.size) (va_runS X.1 (hM H.size) (cw X.1.2.2.2.2) ⟨hbl, hpre⟩ rfl hn hsize rfl (lv_room hW) hdg ⟨hf.1, hf.2⟩) Y.2.2 (fun a _ h => ty_Ain Y a h) (ty_Ain Y) (fun r u t H1 locs1 ht hvm hw hB hz hk hS => ?_)
  exact kk r u H1 locs1 hw (ty_back Y ht hB hS)
theorem ty_SNi {K : ty_S → Int32 → Prop} {host : String} (X : ty_X D cA p s m args meth c cc nL ret Ts own) (Y : ty_Y D cA q Lay S s H locs) (hM : ∀ sz, Met l y ws rm (ty_Pc D cA q Lay S sz As) (ty_Qi D cA q Lay sz K) 0 0 (ty_A q Lay.length sz))
    (cw : (∀ w ∈ Ts, w.before args s = true) → ty_N s → va_CN R s args own index y host bytes maxL ret' ws rm 0 0 n ∧ (Cond.static y).before args s = true ∧ True) (hn : As.length = n) (hsize : ls.size = nL) (hW : (rest.map fun v => v.category).sum ≤ 8) (hdg : decode cc pc = .ok (.invokestatic index, 3)) (hf : cells ≤ R.cells ∧ slots ≤ R.slots)
    (kk : ∀ (r : Int32) (S' : ty_S) (H1 : Heap) (locs1 : List Loc), K S' r → ty_Y D cA q Lay S' s H1 locs1 → W p l e R s m args below meth c H1 locs1 cells slots Q (F0 m (pc + 3) ls (.int r :: rest))) : W p l e R s m args below meth c H locs cells slots Q (F0 m pc ls (As.reverse ++ rest)) := by
  obtain ⟨hbl, hpre⟩ := ty_pre (av := As) X Y
  refine va_calli (A1 := ty_A q Lay.length H.size) (va_runSN X.1 (hM H.size) (cw X.1.2.2.2.2 X.2.2.2.2) ⟨hbl, hpre⟩ rfl hn hsize rfl (lv_room hW) hdg ⟨hf.1, hf.2⟩) Y.2.2 (fun a _ h => ty_Ain Y a h) (ty_Ain Y) (fun r u t H1 locs1 ht hvm hw hB hz hk hS => ?_)
  exact kk r u H1 locs1 hw (ty_back Y ht hB hS)
/-- a static method of the nest's host, private there -/
theorem ty_cwSN {Ts ws ws' : List Cond} {rm : Room} {host : String} (n : Nat) (hts : ∀ w ∈ Ts, w.before args s = true) (hN : ty_N s) (hG : GoodIn Ts ws) (hw : ws = Cond.code y bytes maxL ret' :: ws') (hl : Cond.methodLinkNest own index y host ∈ ty_nest) (hini : Cond.initialized y.cls ∈ Ts) (hst : Cond.static y ∈ Ts) (hrc : rm.cells = 0) (hrs : rm.slots = 0)
    (hd : y.cls ≠ "java/lang/invoke/MethodHandle" ∧ y.cls ≠ "java/lang/invoke/VarHandle" ∧ (parseMethodDescriptor y.desc).map (fun d => d.parameters.length) = some n) (hR : rm.frames + 1 ≤ R.frames ∧ 8 + (maxL + 11) + rm.locals ≤ R.locals) : va_CN R s args own index y host bytes maxL ret' ws rm 0 0 n ∧ (Cond.static y).before args s = true ∧ True :=
  ⟨va_cnB n hts hG hw hrc hrs (hN _ hl) (hts _ hini) hd hR, hts _ hst, trivial⟩
end TYR
/-- a contract out of a walk -/
theorem ty_ofM {l : Launch} {y : MethodName} {ws ws' : List Cond} {rm : Room} {cc : ByteArray} {maxL : Nat} {ret : Option FieldType} {D : va_G} {cA : Nat → ClassId} {q : Nat → Nat} {Lay : List ty_E} {S : ty_S} {av : List Value} {own : String} {Qc : Nat → Array Value → State → Outcome → State → Prop} (hy : plainName y.cls = true) (hw : ws = Cond.code y cc maxL ret :: ws') (hlen : (lg_sl av).length ≤ maxL) (hown : y.cls = own)
    (body : ∀ (p : Program) (e : Env) (s : State) (m : MethodId) (args : Array Value) (below : List Frame) (meth : Method) (c : Code) (ls : Array Slot), ty_X D cA p s m args meth c cc maxL ret ws own → lv_has ls maxL (lv_args 0 av) → ty_Y D cA q Lay S s s.heap [] →
      W p l e rm s m args below meth c s.heap [] 0 0 (MQ below (Qc s.heap.size) args s 0 0 (ty_A q Lay.length s.heap.size)) (F0 m 0 ls [])) (sz : Nat) : Met l y ws rm (ty_Pc D cA q Lay S sz av) (Qc sz) 0 0 (ty_A q Lay.length sz) := by
  refine Met.ofW (cc := cc) (maxL := maxL) (ret := ret) hy hw ?_
  intro p e s m args below meth c s₁ B hml hv
  obtain ⟨rfl, hsz, hP, hK, hD0, hN⟩ := hv
  have hts := atoms_spec (ws := ws) B.pre
  have hn : s.vm.findClass y.cls = some m.cls := findClass_of_methodNamed B.named
  subst hown
  subst hsz
  rw [lg_entry_eq]
  have hl := lv_entry av (n := maxL) hlen
  generalize (lg_sl av ++ List.replicate (maxL - (lg_sl av).length) Slot.unset).toArray = ls at hl ⊢
  exact body p e s m _ below meth c ls ⟨⟨B.exec, B.bytes, hml, hn, hts⟩, hK, B.returns, B.notSynchronized, hN⟩ hl ⟨hP, ty_D_self _ hD0, va_S.rf⟩
