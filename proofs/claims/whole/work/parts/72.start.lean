/-! THE LAW FROM ITS ENTRY -/
theorem tb_nest : ∀ w ∈ ty_nest, w ∈ lw_tbl := by decide +kernel
theorem tb_xw : ∀ w ∈ ty_xw, w ∈ lw_tbl := by decide +kernel
theorem tb_strT : ∀ x ∈ ty_strs, Cond.stringRef RX4 x.1 x.2 ∈ lw_tbl := by decide +kernel
theorem tb_strN : ∀ x ∈ ty_strs, Cond.exactly (.string RX4 x.1) "java/lang/String" ∈ flatC (Jvm.Cond.and given_1 narrow_1) := by decide +kernel
theorem tb_arr {args : Array Value} {s : State} {ty : FieldType} (hn : ∀ C, ty ≠ .object C) (h : (Cond.arrayClass ty).before args s = true) : ∃ c, ArrOfT s c ty ∧ va_RA s c ty := by
  obtain ⟨c, k, comp, h1, h2, h3⟩ := Cond.arrayClass_spec h
  refine ⟨c, fun n z => ⟨fun k h => (by cases h), k, h2, comp, h3⟩, ?_⟩
  cases ty <;> first | exact h1 | exact absurd rfl (hn _)
theorem tb_D {args : Array Value} {s : State} (hts : ∀ w ∈ lw_tbl, w.before args s = true) : ∃ D : va_G, ∀ (k : Nat) (q : vw_C), vwCl[k]? = some q → u_Kn s q.1 q.2.1 q.2.2 (D.1 k) (D.2 k) := by
  obtain ⟨c0, i0, h0⟩ := u_known (C := RX0) (T := TX0) (N := 5) (n := 5) hts inX0 (hts (.instantiable RX0 5) (by decide +kernel))
  obtain ⟨c1, i1, h1⟩ := u_known (C := RX1) (T := TX1) (N := 4) (n := 4) hts inX1 (hts (.instantiable RX1 4) (by decide +kernel))
  obtain ⟨c2, i2, h2⟩ := u_known (C := RX2) (T := TX2) (N := 4) (n := 4) hts inX2 (hts (.instantiable RX2 4) (by decide +kernel))
  obtain ⟨c3, i3, h3⟩ := u_known (C := RX3) (T := TX3) (N := 13) (n := 13) hts inX3 (hts (.instantiable RX3 13) (by decide +kernel))
  obtain ⟨c4, i4, h4⟩ := u_known (C := RX4) (T := TX4) (N := 4) (n := 4) hts inX4 (hts (.instantiable RX4 4) (by decide +kernel))
  obtain ⟨c5, i5, h5⟩ := u_known (C := RX5) (T := TX5) (N := 31) (n := 31) hts inX5 (hts (.instantiable RX5 31) (by decide +kernel))
  refine ⟨(fun k => [c0, c1, c2, c3, c4, c5].getD k c0, fun k => [i0, i1, i2, i3, i4, i5].getD k i0), ?_⟩
  intro k q hq
  match k, hq with
  | 0, hq => cases hq; exact h0
  | 1, hq => cases hq; exact h1
  | 2, hq => cases hq; exact h2
  | 3, hq => cases hq; exact h3
  | 4, hq => cases hq; exact h4
  | 5, hq => cases hq; exact h5
  | k + 6, hq => simp [vwCl] at hq
theorem tb_cA {args : Array Value} {s : State} (hts : ∀ w ∈ lw_tbl, w.before args s = true) : ∃ cA : Nat → ClassId, ∀ (k : Nat) (q : ClassId × FieldType), (ty_tys cA)[k]? = some q → ArrOfT s q.1 q.2 ∧ va_RA s q.1 q.2 := by
  obtain ⟨c0, h0⟩ := tb_arr (ty := .int) (fun C h => by cases h) (hts (.arrayClass .int) (by decide +kernel))
  obtain ⟨c1, h1⟩ := tb_arr (ty := .boolean) (fun C h => by cases h) (hts (.arrayClass .boolean) (by decide +kernel))
  obtain ⟨c2, h2⟩ := tb_arr (ty := .long) (fun C h => by cases h) (hts (.arrayClass .long) (by decide +kernel))
  refine ⟨fun k => if k = 0 then c0 else if k = 1 then c1 else c2, ?_⟩
  intro k q hq
  match k, hq with
  | 0, hq => cases hq; exact h0
  | 1, hq => cases hq; exact h1
  | 2, hq => cases hq; exact h2
  | k + 3, hq => simp [ty_tys] at hq
theorem tb_Z {args : Array Value} {s : State} (hts : ∀ w ∈ lw_tbl, w.before args s = true) (hgv : (Jvm.Cond.and given_1 narrow_1).before args s = true) : tx_Z (tw_A s) s s.heap := by
  have hs := flat_of_before _ hgv
  have hA : ∀ a : Nat, a < s.heap.size → ¬ tw_A s a := fun a h => Nat.not_le.mpr h
  refine ⟨vx_Zqof (hts _ (by decide +kernel)) (hts _ (by decide +kernel)) (hs _ (by decide +kernel)) hA, vx_Zqof (hts _ (by decide +kernel)) (hts _ (by decide +kernel)) (hs _ (by decide +kernel)) hA, fun x hx => ?_, fun w hw => va_Nw.of (List.all_eq_true.mp ty_xw_tab w hw) (hts w (tb_xw w hw))⟩
  obtain ⟨a, c, cell, k, q1, -⟩ := Cond.exactly_spec (args := args) (first := s) (o := none) (s := s) (idx := []) (hs _ (tb_strN x hx))
  exact ⟨a, vk_R.of (hts _ (tb_strT x hx)) q1⟩
theorem tb_C {args : Array Value} {s : State} (hgv : (Jvm.Cond.and given_1 narrow_1).before args s = true) : tl_N s := by
  have hs := flat_of_before _ hgv
  intro i j hi hj hij
  rcases (show i = 0 ∨ i = 1 ∨ i = 2 by omega) with rfl | rfl | rfl <;> rcases (show j = 0 ∨ j = 1 ∨ j = 2 by omega) with rfl | rfl | rfl <;> first | exact absurd rfl hij | exact va_Nc.of (hs _ (by decide +kernel))
theorem tb_st {l : Launch} (h : l.flags = flags0) : l.stackTraces = false := by
  unfold Launch.stackTraces
  rw [h]
  decide +kernel
/-- what the class holds at first -/
def tb_S0 : ty_S := fun f j => if f = 7 then (if j < 16 then -1 else 0) else if f = 20 then -1 else if f = 23 then 4 else 0
theorem tb_S0_eq : py_O pl_s0 = tb_S0 := by
  funext f i
  unfold py_O pl_s0 tb_S0 py_o
  by_cases h1 : f = 7
  · rw [if_pos h1, if_pos h1]
    by_cases h2 : i < 16
    · rw [if_pos h2, if_pos h2]; rfl
    · rw [if_neg h2, if_neg h2]; rfl
  · rw [if_neg h1, if_neg h1]
    by_cases h2 : f = 20
    · rw [if_pos h2, if_pos h2]; rfl
    · rw [if_neg h2, if_neg h2]
      by_cases h3 : f = 23
      · rw [if_pos h3, if_pos h3]; rfl
      · rw [if_neg h3, if_neg h3]; rfl
theorem tb_T0_eq : py_O pl_t0 = ty_T0 := by
  funext f i
  unfold py_O pl_t0 ty_T0 ty_T1 ty_fill py_o
  by_cases h1 : f = 43
  · subst h1
    rw [if_pos rfl, if_pos rfl]
    by_cases h2 : i < 16
    · rw [if_pos h2]; show _ = (if i < 16 then (-1 : Int32) else _); rw [if_pos h2]; rfl
    · rw [if_neg h2]; show _ = (if i < 16 then (-1 : Int32) else _); rw [if_neg h2]; rfl
  · rw [if_neg h1, if_neg h1]
    show Int32.ofInt (if f = 51 then 4 else if f = 59 then -1 else 0) = (if f = 51 then (4 : Int32) else if f = 59 then -1 else 0)
    by_cases h2 : f = 51
    · rw [if_pos h2, if_pos h2]; rfl
    · rw [if_neg h2, if_neg h2]
      by_cases h3 : f = 59
      · rw [if_pos h3, if_pos h3]; rfl
      · rw [if_neg h3, if_neg h3]; rfl
theorem tb_newl {p : Program} {l : Launch} {e : Env} {R : Room} {s : State} {m : MethodId} {args : Array Value} {below : List Frame} {meth : Method} {c : Code} {H : Heap} {locs : List Loc} {cells slots : Nat} {Q : State → Prop} {D : va_G} {cA : Nat → ClassId} {A : Nat → Prop} {ws : va_W} {cc : ByteArray} {nL : Nat} {ret : Option FieldType} {Ts : List Cond} {own : String} {pc : Nat} {ls : Array Slot} {rest : List Value} (X : ty_X D cA p s m args meth c cc nL ret Ts own) (hA : ∀ q, s.heap.size ≤ q → A q) (Y : ti_Y D A ws s H locs) (harr : Cond.arrayClass .long ∈ Ts) {n : Int32} {N : Nat} (hn : ¬ n < 0) (hN : n.toNatClampNeg = N) (hby : N * componentBytes .long ≤ 536870912) (hcells : cells + 1 ≤ R.cells) (hslots : slots + N ≤ R.slots) (hdg : decode cc pc = .ok (.newarray .long, 2))
    (kk : ∀ (q : Nat) (H1 : Heap), ti_Y D A (ws ++ [(q, .inl (cA 2, N, .inr (.inl (fun _ => (0 : Int32).toInt64))))]) s H1 locs → W p l e R s m args below meth c H1 locs (cells + 1) (slots + N) Q (F0 m (pc + 2) ls (.ref q :: rest))) : W p l e R s m args below meth c H locs cells slots Q (F0 m pc ls (.int n :: rest)) := by
  obtain ⟨⟨hx, hb, hml, hown, hts⟩, hK, hr, hlo, hN9⟩ := X
  have e0 : (0 : Int32).toInt64 = 0 := by decide
  refine va_newa (atype := .long) (ty := .long) hx hb (hts _ harr) rfl hK Y.1 Y.2.1 Y.2.2 hA (a0 := (N, .inr (.inl (fun _ => (0 : Int32).toInt64)))) (fun cA => by rw [e0]; rfl) hn hN hby hcells hslots hdg (fun q c1 H1 hK1 hP hD hS => ?_)
  have e := ty_Kint hK 2 .long rfl (fun C h => by cases h) hK1
  subst e
  exact kk q H1 ⟨hP, hD, hS⟩
theorem kL_0 : Cond.classLink RL 8 RX4 ∈ wsL_law := by decide +kernel
theorem kL_1 : Cond.instantiable RX4 4 ∈ wsL_law := by decide +kernel
theorem kL_2 : Cond.initialized RX4 ∈ wsL_law := by decide +kernel
theorem kL_3 : Cond.methodLink RL 69 yX4_init ∈ wsL_law := by decide +kernel
theorem kL_4 : Cond.instanceMethod yX4_init ∈ wsL_law := by decide +kernel
theorem kL_5 : Cond.classLink RL 70 RX5 ∈ wsL_law := by decide +kernel
theorem kL_6 : Cond.instantiable RX5 31 ∈ wsL_law := by decide +kernel
theorem kL_7 : Cond.initialized RX5 ∈ wsL_law := by decide +kernel
theorem kL_8 : Cond.methodLink RL 72 yX5_init ∈ wsL_law := by decide +kernel
theorem kL_9 : Cond.instanceMethod yX5_init ∈ wsL_law := by decide +kernel
theorem kL_10 : Cond.arrayClass .long ∈ wsL_law := by decide +kernel
/-- the class's cells, in the order of the layout -/
def tb_q (h0 o0 : Nat) (u : Nat → Nat) : Nat → Nat := fun k => [h0, u 0, u 13, u 1, u 7, u 10, u 11, u 12, u 14, u 15, u 2, u 3, u 4, u 5, u 6, u 8, u 9, o0].getD k 0
theorem tb_Yw {D : va_G} {cA : Nat → ClassId} {h0 g0 o0 : Nat} {u v : Nat → Nat} {s : State} {H : Heap} {locs : List Loc} (Y : ti_Y D (tw_A s) ((tiw_X4 cA h0 u ++ tiw_X5 cA g0 v) ++ [(o0, .inl (cA 2, 1, .inr (.inl (fun _ => (0 : Int32).toInt64))))]) s H locs) : tw_Y D cA (tb_q h0 o0 u) (tiq_X5 g0 v) tb_S0 ty_T0 s H locs := by
  have e1 : [0, 1, 14, 2, 8, 11, 12, 13, 15, 16, 3, 4, 5, 6, 7, 9, 10, 17].filterMap (fun i => (tiw_X4 cA h0 u ++ [(o0, (.inl (cA 2, 1, .inr (.inl (fun _ => (0 : Int32).toInt64))) : va_E))])[i]?) = ty_W cA (tb_q h0 o0 u) ty_LY tb_S0 := rfl
  have e2 : [0, 1, 14, 2, 8, 11, 12, 13, 15, 16, 3, 4, 5, 6, 7, 9, 10, 37].map (fun i => ((tiw_X4 cA h0 u ++ tiw_X5 cA g0 v) ++ [(o0, (.inl (cA 2, 1, .inr (.inl (fun _ => (0 : Int32).toInt64))) : va_E))])[i]?) = (ty_W cA (tb_q h0 o0 u) ty_LY tb_S0).map some := rfl
  have e3 : [17, 18, 19, 20, 21, 22, 23, 24, 25, 26, 27, 28, 29, 30, 31, 32, 33, 34, 35, 36].map (fun i => ((tiw_X4 cA h0 u ++ tiw_X5 cA g0 v) ++ [(o0, (.inl (cA 2, 1, .inr (.inl (fun _ => (0 : Int32).toInt64))) : va_E))])[i]?) = (ty_W cA (tiq_X5 g0 v) ty_LM ty_T0).map some := rfl
  refine ⟨va_P.app ((va_P.app (tw_Pl (tw_Pl Y.1)) (tw_Pr Y.1)).sub _ e1) (tw_Pr (tw_Pl Y.1)), ?_, Y.2.2⟩
  refine Y.2.1.sub ([0, 1, 14, 2, 8, 11, 12, 13, 15, 16, 3, 4, 5, 6, 7, 9, 10, 37] ++ [17, 18, 19, 20, 21, 22, 23, 24, 25, 26, 27, 28, 29, 30, 31, 32, 33, 34, 35, 36]) (by decide) ?_
  rw [List.map_append, List.map_append, e2, e3]
set_option maxHeartbeats 4000000 in
set_option maxRecDepth 100000 in
/-- THE LAW, from its entry -/
theorem whole_start {p : Program} {e : Env} {s : State} {m : MethodId} {below : List Frame} {meth : Method} {c : Code} (l : Launch) (hflags : l.flags = flags0) {b L : Nat} {xs : Nat → Int32} (hL : L ≤ 256) (C0 : lw_At p s m meth c b L xs) : W p l e room_1 s m #[Value.ref b] below meth c s.heap [] 0 0 (lw_Z below #[Value.ref b] s) (entryFrame m ([Value.ref b] : List Value).toArray 7) := by
  obtain ⟨hx, hb, hr, hml, hown, hts, hX, hbl, hlocks, hgv⟩ := id C0
  obtain ⟨D, hDk⟩ := tb_D hts
  obtain ⟨cA, hAk⟩ := tb_cA hts
  have hN : ty_N s := fun w hw => va_Nw.of (List.all_eq_true.mp ty_nest_tab w hw) (hts w (tb_nest w hw))
  have hK : va_K D vwCl (ty_tys cA) s := ⟨hDk, hAk⟩
  have hF : CallFix p m c cL_law 7 s #[Value.ref b] wsL_law RL := ⟨hx, hb, hml, hown, fun w hw => hts w (wsL_law_in w hw)⟩
  have X9 : tw_X l D cA p s m #[Value.ref b] c b L xs := ⟨hF, hK, hN, tb_Z hts hgv, tb_C hgv, tb_st hflags, hX, hbl⟩
  have X : ty_X D cA p s m #[Value.ref b] meth c cL_law 7 ret wsL_law RL := ⟨hF, hK, hr, hlocks, hN⟩
  have hA : ∀ q : Nat, s.heap.size ≤ q → tw_A s q := fun _ h => h
  have Y : ti_Y D (tw_A s) [] s s.heap [] := ⟨fun k q h => by simp at h, ⟨fun i j p q h => by simp at h, fun k q h => by simp at h⟩, va_S.rf⟩
  have hl := lv_entry ([.ref b]) (n := 7) (Nat.le_of_ble_eq_true rfl)
  rw [lg_entry_eq]
  generalize (lg_sl ([.ref b]) ++ List.replicate (7 - (lg_sl ([.ref b])).length) Slot.unset).toArray = ls at hl ⊢
  have hl : lv_has ls 7 [(0, .ref b)] := hl
  refine ti_new (ci := 4) (fs := [.null, .null, .int 0, .int 0]) (C := RX4) (T := TX4) (N := 4) X hA Y tyX4 tyX4_ok inlX4 kL_0 kL_1 kL_2 rfl (fun j hj => by rcases (show j = 0 ∨ j = 1 ∨ j = 2 ∨ j = 3 by omega) with rfl | rfl | rfl | rfl <;> rfl) (Nat.le_of_ble_eq_true rfl) (Nat.le_of_ble_eq_true rfl) dL_law_0 (fun h0 H Y => ?_)
  refine lv_dup hx hb dL_law_3 rfl ?_
  refine ti_call (ws0 := []) (rest := [.ref h0]) X hA Y (tc_X4 l D cA h0) (fun hM hp => va_runI (As := []) (rest := [.ref h0]) X.1 hM (cwI 0 X.1.2.2.2.2 gL_law_X4_init rfl rfl rfl (X.1.2.2.2.2 _ kL_2) (X.1.2.2.2.2 _ kL_3) (X.1.2.2.2.2 _ kL_4) rfl (by decide +kernel) ⟨Nat.le_of_ble_eq_true rfl, Nat.le_of_ble_eq_true rfl⟩) hp rfl rfl hl.1 rfl (lv_room (Nat.le_of_ble_eq_true rfl)) dL_law_4 ⟨Nat.le_of_ble_eq_true rfl, Nat.le_of_ble_eq_true rfl⟩) (fun u H locs Y => ?_)
  have Y : ti_Y D (tw_A s) (tiw_X4 cA h0 u) s H locs := Y
  refine lv_astore_n (lv' := [(1, .ref h0), (0, .ref b)]) hx hb dL_law_7 rfl hl (by decide) rfl (fun ls hl => ?_)
  refine ti_new (ci := 5) (fs := [.null, .null, .null, .null, .null, .null, .null, .null, .null, .null, .int 0, .null, .null, .null, .null, .int 0, .int 0, .int 0, .int 0, .int 0, .int 0, .int 0, .int 0, .int 0, .int 0, .null, .null, .null, .null, .int 0, .null]) (C := RX5) (T := TX5) (N := 31) X hA Y tyX5 tyX5_ok inlX5 kL_5 kL_6 kL_7 rfl (fun j hj => by rcases (show j = 0 ∨ j = 1 ∨ j = 2 ∨ j = 3 ∨ j = 4 ∨ j = 5 ∨ j = 6 ∨ j = 7 ∨ j = 8 ∨ j = 9 ∨ j = 10 ∨ j = 11 ∨ j = 12 ∨ j = 13 ∨ j = 14 ∨ j = 15 ∨ j = 16 ∨ j = 17 ∨ j = 18 ∨ j = 19 ∨ j = 20 ∨ j = 21 ∨ j = 22 ∨ j = 23 ∨ j = 24 ∨ j = 25 ∨ j = 26 ∨ j = 27 ∨ j = 28 ∨ j = 29 ∨ j = 30 by omega) with rfl | rfl | rfl | rfl | rfl | rfl | rfl | rfl | rfl | rfl | rfl | rfl | rfl | rfl | rfl | rfl | rfl | rfl | rfl | rfl | rfl | rfl | rfl | rfl | rfl | rfl | rfl | rfl | rfl | rfl | rfl <;> rfl) (Nat.le_of_ble_eq_true rfl) (Nat.le_of_ble_eq_true rfl) dL_law_8 (fun g0 H Y => ?_)
  refine lv_dup hx hb dL_law_11 rfl ?_
  refine ti_call (ws0 := tiw_X4 cA h0 u) (rest := [.ref g0]) X hA Y (tc_X5 l D cA g0) (fun hM hp => va_runI (As := []) (rest := [.ref g0]) X.1 hM (cwI 0 X.1.2.2.2.2 gL_law_X5_init rfl rfl rfl (X.1.2.2.2.2 _ kL_7) (X.1.2.2.2.2 _ kL_8) (X.1.2.2.2.2 _ kL_9) rfl (by decide +kernel) ⟨Nat.le_of_ble_eq_true rfl, Nat.le_of_ble_eq_true rfl⟩) hp rfl rfl hl.1 rfl (lv_room (Nat.le_of_ble_eq_true rfl)) dL_law_12 ⟨Nat.le_of_ble_eq_true rfl, Nat.le_of_ble_eq_true rfl⟩) (fun v H locs Y => ?_)
  refine lv_astore_n (lv' := [(2, .ref g0), (1, .ref h0), (0, .ref b)]) hx hb dL_law_15 rfl hl (by decide) rfl (fun ls hl => ?_)
  refine lv_iconst (v := (1 : Int32)) hx hb dL_law_16 (by decide) ?_
  refine tb_newl (N := 1) X hA Y kL_10 (by decide) (by decide) (Nat.le_of_ble_eq_true rfl) (Nat.le_of_ble_eq_true rfl) (Nat.le_of_ble_eq_true rfl) dL_law_17 (fun o0 H Y => ?_)
  refine lv_astore_n (lv' := [(3, .ref o0), (2, .ref g0), (1, .ref h0), (0, .ref b)]) hx hb dL_law_19 rfl hl (by decide) rfl (fun ls hl => ?_)
  refine lv_iconst (v := (0 : Int32)) hx hb dL_law_20 (by decide) ?_
  refine lv_istore (lv' := [(4, .int (0 : Int32)), (3, .ref o0), (2, .ref g0), (1, .ref h0), (0, .ref b)]) hx hb dL_law_21 hl (by decide) rfl (fun ls hl => ?_)
  have hm := pl_main (xs := xs) hL
  rw [tb_S0_eq, tb_T0_eq, show py_o 0 = 0 by decide] at hm
  exact wL_law hr hlocks X9 66 _ _ 0 tb_S0 ty_T0 H locs ls hm (Nat.le_of_ble_eq_true rfl) (Nat.le_of_ble_eq_true rfl) (tb_Yw Y) (lv_sub hl [4, 3, 2, 1, 0] rfl)
