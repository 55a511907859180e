/-- Arrays.fill over an array of a growing world -/
theorem ti_fill {p : Program} {l : Launch} {e : Env} {R : Room} {s : State} {m : MethodId} {args : Array Value} {below : List Frame} {meth : Method} {c : Code} {H : Heap} {locs : List Loc} {cells slots : Nat} {Q : State → Prop} {D : va_G} {cA : Nat → ClassId} {A : Nat → Prop} {ws : va_W} {cc : ByteArray} {nL : Nat} {ret : Option FieldType} {Ts : List Cond} {own : String} {pc index : Nat} {ls : Array Slot} {n : Nat} {v : Int32} {a : Nat} {f : Nat → Int32} (X : ty_X D cA p s m args meth c cc nL ret Ts own) (hA : ∀ q, s.heap.size ≤ q → A q) (Y : ti_Y D A ws s H locs) (k : Nat) (hk : ws[k]? = some (a, .inl (cA 0, n, .inl f))) (hn : n < 2 ^ 31) (cw : CallB R s args own index yJ7_fill_53178 cJ7_fill_53178 4 none wsJ7_fill_53178 rfill 0 0 2 ∧ (Cond.static yJ7_fill_53178).before args s = true) (hsize : ls.size = nL) (hdg : decode cc pc = .ok (.invokestatic index, 3)) (hf : cells ≤ R.cells ∧ slots ≤ R.slots)
    (kk : ∀ (H1 : Heap) (locs1 : List Loc), ti_Y D A (ws.set k (a, .inl (cA 0, n, .inl (fun j => if j < n then v else f j)))) s H1 locs1 → W p l e R s m args below meth c H1 locs1 cells slots Q (F0 m (pc + 3) ls [])) : W p l e R s m args below meth c H locs cells slots Q (F0 m pc ls [.int v, .ref a]) := by
  obtain ⟨-, hK, -, -, hN⟩ := id X
  have hw : ty_W cA (fun _ => a) [.inr (n, 0, 0)] (fun _ => f) = [(a, .inl (cA 0, n, .inl f))] := rfl
  have hPc : va_P D vwCl [(a, .inl (cA 0, n, .inl f))] H := fun i x hi => by
    match i, hi with
    | 0, hi => cases hi; exact Y.1 k _ hk
    | i + 1, hi => simp at hi
  have hDc : va_D (fun _ => True) ([(a, .inl (cA 0, n, .inl f))] : va_W) := ⟨fun i j x y hi hj _ => by
    match i, j, hi, hj with
    | 0, 0, _, _ => rfl
    | i + 1, _, hi, _ => simp at hi
    | _, j + 1, _, hj => simp at hj, fun _ _ _ => trivial⟩
  have hM := c_fill l D cA (fun _ => a) [.inr (n, 0, 0)] 0 n 0 rfl rfl hn (fun _ => f) v (fun u => u = ty_fill (fun _ => f) 0 n v) rfl H.size
  have hpre : PreS s H (ty_Pc D cA (fun _ => a) [.inr (n, 0, 0)] (fun _ => f) H.size [.ref a, .int v]) [.ref a, .int v] := by
    refine ⟨fun a9 U g mk h => ?_, fun U hU hW => ⟨rfl, by rw [hU], by rw [hU, hw]; exact hPc, va_K.moved hW.alike hK, by rw [hw]; exact hDc, hN.warm hW⟩⟩
    obtain ⟨q0, q1, qP, qK, qD, qN⟩ := h
    exact ⟨q0, q1, qP, va_K.moved (u := U) (U := U.calling g mk a9) (Vm.Alike.refl U.vm) qK, qD, ty_N.same (u := U) (U := U.calling g mk a9) rfl qN⟩
  have hin : ∀ q, ty_A (fun _ => a) 1 H.size q → A q := by
    intro q h
    rcases h with ⟨_, _, h⟩ | h
    · rw [h]; exact Y.2.1.2 k _ hk
    · exact hA q (Nat.le_trans Y.2.2.1 h)
  refine va_callv (A1 := ty_A (fun _ => a) 1 H.size) (va_runS (As := [.ref a, .int v]) (rest := []) X.1 hM cw hpre rfl rfl hsize rfl (lv_room (Nat.le_of_ble_eq_true rfl)) hdg ⟨hf.1, hf.2⟩) Y.2.2 (fun q _ h => hin q h) hin (fun u t H1 locs1 ht hvm hw1 hB hz hk1 hS => ?_)
  subst hw1
  obtain ⟨hP1, hK1, hD1⟩ := hB
  rw [ht] at hP1
  have hcell : va_at D vwCl (a, .inl (cA 0, n, .inl (fun j => if j < n then v else f j))) H1 := hP1 0 _ (by rw [ty_W_at (x := .inr (n, 0, 0)) rfl]; rfl)
  refine kk H1 locs1 ⟨fun i x hi => ?_, tw_Dfst (w := ws) ?_ Y.2.1, hS⟩
  · rw [List.getElem?_set] at hi
    by_cases hik : k = i
    · subst hik
      rw [if_pos rfl, if_pos (List.getElem?_eq_some_iff.mp hk).1] at hi
      cases hi; exact hcell
    · rw [if_neg hik] at hi
      have hlt := (Y.1 i x hi).lt
      refine (Y.1 i x hi).kept (hk1 x.1 hlt fun h => ?_)
      rcases h with ⟨_, _, h⟩ | h
      · exact hik (Y.2.1.1 k i _ x hk hi h.symm)
      · omega
  · apply List.ext_getElem?
    intro i
    rw [List.getElem?_map, List.getElem?_map, List.getElem?_set]
    by_cases hik : k = i
    · subst hik
      rw [if_pos rfl, if_pos (List.getElem?_eq_some_iff.mp hk).1, hk]; rfl
    · rw [if_neg hik]
abbrev rX0_init : Room := { frames := 1, cells := 5, slots := 2680, locals := 32 }
theorem kX0_init_0 : Cond.methodLink RX0 3 objectInit ∈ wsX0_init := ty_m 1 (by decide +kernel)
theorem kX0_init_1 : Cond.instanceMethod objectInit ∈ wsX0_init := ty_m 2 (by decide +kernel)
theorem kX0_init_2 : Cond.code objectInit ⟨#[0xb1]⟩ 1 none ∈ wsX0_init := ty_m 3 (by decide +kernel)
theorem kX0_init_3 : Cond.arrayClass .int ∈ wsX0_init := ty_m 4 (by decide +kernel)
theorem kX0_init_4 : Cond.fieldLink RX0 9 "TrainYard$Freight" "words" "[I" ∈ wsX0_init := ty_m 5 (by decide +kernel)
theorem iX0_init_X0 : ∀ w ∈ wsX00, w ∈ wsX0_init := ty_inp _ [11, 12, 13, 14, 15] (by decide +kernel)
theorem kX0_init_6 : Cond.arrayClass .boolean ∈ wsX0_init := ty_m 6 (by decide +kernel)
theorem kX0_init_7 : Cond.fieldLink RX0 15 "TrainYard$Freight" "isReference" "[Z" ∈ wsX0_init := ty_m 7 (by decide +kernel)
theorem kX0_init_8 : Cond.fieldLink RX0 19 "TrainYard$Freight" "filled" "[I" ∈ wsX0_init := ty_m 8 (by decide +kernel)
theorem kX0_init_9 : Cond.fieldLink RX0 22 "TrainYard$Freight" "thingCount" "[I" ∈ wsX0_init := ty_m 9 (by decide +kernel)
theorem kX0_init_10 : Cond.fieldLink RX0 25 "TrainYard$Freight" "lastThing" "[I" ∈ wsX0_init := ty_m 10 (by decide +kernel)
/-- the world behind "TrainYard$Freight"() -/
def tiw_X0 (cA : Nat → ClassId) (h0 : Nat) (u : Nat → Nat) : va_W := [(h0, .inr (0, [.ref (u 0), .ref (u 1), .ref (u 2), .ref (u 3), .ref (u 4)])), ((u 0), .inl (cA 0, 1280, .inl (fun _ => 0))), ((u 1), .inl (cA 1, 1280, .inl (fun _ => 0))), ((u 2), .inl (cA 0, 40, .inl (fun _ => 0))), ((u 3), .inl (cA 0, 40, .inl (fun _ => 0))), ((u 4), .inl (cA 0, 40, .inl (fun _ => 0)))]
set_option maxHeartbeats 4000000 in
set_option maxRecDepth 100000 in
theorem tc_X0 (l : Launch) (D : va_G) (cA : Nat → ClassId) (h0 : Nat) : ∀ sz, Met l yX0_init wsX0_init rX0_init (ti_Pc D cA [(h0, .inr (0, [.null, .null, .null, .null, .null]))] sz h0) (ti_Q D cA (tiw_X0 cA h0) sz h0) 5 2680 (ti_A h0 sz) := by
  refine ti_ofM (maxL := 1) (cc := cX0_init) (own := RX0) (by decide +kernel) rfl rfl (Nat.le_of_ble_eq_true rfl) rfl ?_
  intro p e s m args below meth c ls X hin hA hl locs Y
  have hx := X.1.1
  have hb := X.1.2.1
  refine lv_aload_n hx hb dX0_init_0 rfl (lv_at hl 0 rfl) ?_
  refine ti_obj X kX0_init_0 kX0_init_1 kX0_init_2 hl.1 dX0_init_1 (Nat.le_of_ble_eq_true rfl) (Nat.le_of_ble_eq_true rfl) ?_
  refine lv_aload_n hx hb dX0_init_4 rfl (lv_at hl 0 rfl) ?_
  refine lv_sipush (v := (1280 : Int32)) hx hb dX0_init_5 (by decide) ?_
  refine ti_newi (N := 1280) X hA Y kX0_init_3 (by decide) (by decide) (Nat.le_of_ble_eq_true rfl) (Nat.le_of_ble_eq_true rfl) (Nat.le_of_ble_eq_true rfl) dX0_init_8 (fun a1 H Y => ?_)
  have Y : ti_Y D (ti_A h0 s.heap.size) [(h0, .inr (0, [.null, .null, .null, .null, .null])), (a1, .inl (cA 0, 1280, .inl (fun _ => 0)))] s H locs := Y
  refine ti_putF (ty := (.array .int)) (C := RX0) (T := TX0) (N := 5) X hin Y tyX0 tyX0_ok nmX0 iX0_init_X0 0 0 rfl rfl (by decide) ⟨rfl, rfl, rfl, rfl⟩ kX0_init_4 (by decide +kernel) rfl rfl (Nat.le_of_ble_eq_true rfl) dX0_init_10 (fun H locs Y => ?_)
  have Y : ti_Y D (ti_A h0 s.heap.size) [(h0, .inr (0, [.ref a1, .null, .null, .null, .null])), (a1, .inl (cA 0, 1280, .inl (fun _ => 0)))] s H locs := Y
  refine lv_aload_n hx hb dX0_init_13 rfl (lv_at hl 0 rfl) ?_
  refine lv_sipush (v := (1280 : Int32)) hx hb dX0_init_14 (by decide) ?_
  refine ti_newz (N := 1280) X hA Y kX0_init_6 (by decide) (by decide) (Nat.le_of_ble_eq_true rfl) (Nat.le_of_ble_eq_true rfl) (Nat.le_of_ble_eq_true rfl) dX0_init_17 (fun a2 H Y => ?_)
  have Y : ti_Y D (ti_A h0 s.heap.size) [(h0, .inr (0, [.ref a1, .null, .null, .null, .null])), (a1, .inl (cA 0, 1280, .inl (fun _ => 0))), (a2, .inl (cA 1, 1280, .inl (fun _ => 0)))] s H locs := Y
  refine ti_putF (ty := (.array .boolean)) (C := RX0) (T := TX0) (N := 5) X hin Y tyX0 tyX0_ok nmX0 iX0_init_X0 0 1 rfl rfl (by decide) ⟨rfl, rfl, rfl, rfl⟩ kX0_init_7 (by decide +kernel) rfl rfl (Nat.le_of_ble_eq_true rfl) dX0_init_19 (fun H locs Y => ?_)
  have Y : ti_Y D (ti_A h0 s.heap.size) [(h0, .inr (0, [.ref a1, .ref a2, .null, .null, .null])), (a1, .inl (cA 0, 1280, .inl (fun _ => 0))), (a2, .inl (cA 1, 1280, .inl (fun _ => 0)))] s H locs := Y
  refine lv_aload_n hx hb dX0_init_22 rfl (lv_at hl 0 rfl) ?_
  refine lv_bipush (v := (40 : Int32)) hx hb dX0_init_23 (by decide) ?_
  refine ti_newi (N := 40) X hA Y kX0_init_3 (by decide) (by decide) (Nat.le_of_ble_eq_true rfl) (Nat.le_of_ble_eq_true rfl) (Nat.le_of_ble_eq_true rfl) dX0_init_25 (fun a3 H Y => ?_)
  have Y : ti_Y D (ti_A h0 s.heap.size) [(h0, .inr (0, [.ref a1, .ref a2, .null, .null, .null])), (a1, .inl (cA 0, 1280, .inl (fun _ => 0))), (a2, .inl (cA 1, 1280, .inl (fun _ => 0))), (a3, .inl (cA 0, 40, .inl (fun _ => 0)))] s H locs := Y
  refine ti_putF (ty := (.array .int)) (C := RX0) (T := TX0) (N := 5) X hin Y tyX0 tyX0_ok nmX0 iX0_init_X0 0 2 rfl rfl (by decide) ⟨rfl, rfl, rfl, rfl⟩ kX0_init_8 (by decide +kernel) rfl rfl (Nat.le_of_ble_eq_true rfl) dX0_init_27 (fun H locs Y => ?_)
  have Y : ti_Y D (ti_A h0 s.heap.size) [(h0, .inr (0, [.ref a1, .ref a2, .ref a3, .null, .null])), (a1, .inl (cA 0, 1280, .inl (fun _ => 0))), (a2, .inl (cA 1, 1280, .inl (fun _ => 0))), (a3, .inl (cA 0, 40, .inl (fun _ => 0)))] s H locs := Y
  refine lv_aload_n hx hb dX0_init_30 rfl (lv_at hl 0 rfl) ?_
  refine lv_bipush (v := (40 : Int32)) hx hb dX0_init_31 (by decide) ?_
  refine ti_newi (N := 40) X hA Y kX0_init_3 (by decide) (by decide) (Nat.le_of_ble_eq_true rfl) (Nat.le_of_ble_eq_true rfl) (Nat.le_of_ble_eq_true rfl) dX0_init_33 (fun a4 H Y => ?_)
  have Y : ti_Y D (ti_A h0 s.heap.size) [(h0, .inr (0, [.ref a1, .ref a2, .ref a3, .null, .null])), (a1, .inl (cA 0, 1280, .inl (fun _ => 0))), (a2, .inl (cA 1, 1280, .inl (fun _ => 0))), (a3, .inl (cA 0, 40, .inl (fun _ => 0))), (a4, .inl (cA 0, 40, .inl (fun _ => 0)))] s H locs := Y
  refine ti_putF (ty := (.array .int)) (C := RX0) (T := TX0) (N := 5) X hin Y tyX0 tyX0_ok nmX0 iX0_init_X0 0 3 rfl rfl (by decide) ⟨rfl, rfl, rfl, rfl⟩ kX0_init_9 (by decide +kernel) rfl rfl (Nat.le_of_ble_eq_true rfl) dX0_init_35 (fun H locs Y => ?_)
  have Y : ti_Y D (ti_A h0 s.heap.size) [(h0, .inr (0, [.ref a1, .ref a2, .ref a3, .ref a4, .null])), (a1, .inl (cA 0, 1280, .inl (fun _ => 0))), (a2, .inl (cA 1, 1280, .inl (fun _ => 0))), (a3, .inl (cA 0, 40, .inl (fun _ => 0))), (a4, .inl (cA 0, 40, .inl (fun _ => 0)))] s H locs := Y
  refine lv_aload_n hx hb dX0_init_38 rfl (lv_at hl 0 rfl) ?_
  refine lv_bipush (v := (40 : Int32)) hx hb dX0_init_39 (by decide) ?_
  refine ti_newi (N := 40) X hA Y kX0_init_3 (by decide) (by decide) (Nat.le_of_ble_eq_true rfl) (Nat.le_of_ble_eq_true rfl) (Nat.le_of_ble_eq_true rfl) dX0_init_41 (fun a5 H Y => ?_)
  have Y : ti_Y D (ti_A h0 s.heap.size) [(h0, .inr (0, [.ref a1, .ref a2, .ref a3, .ref a4, .null])), (a1, .inl (cA 0, 1280, .inl (fun _ => 0))), (a2, .inl (cA 1, 1280, .inl (fun _ => 0))), (a3, .inl (cA 0, 40, .inl (fun _ => 0))), (a4, .inl (cA 0, 40, .inl (fun _ => 0))), (a5, .inl (cA 0, 40, .inl (fun _ => 0)))] s H locs := Y
  refine ti_putF (ty := (.array .int)) (C := RX0) (T := TX0) (N := 5) X hin Y tyX0 tyX0_ok nmX0 iX0_init_X0 0 4 rfl rfl (by decide) ⟨rfl, rfl, rfl, rfl⟩ kX0_init_10 (by decide +kernel) rfl rfl (Nat.le_of_ble_eq_true rfl) dX0_init_43 (fun H locs Y => ?_)
  have Y : ti_Y D (ti_A h0 s.heap.size) [(h0, .inr (0, [.ref a1, .ref a2, .ref a3, .ref a4, .ref a5])), (a1, .inl (cA 0, 1280, .inl (fun _ => 0))), (a2, .inl (cA 1, 1280, .inl (fun _ => 0))), (a3, .inl (cA 0, 40, .inl (fun _ => 0))), (a4, .inl (cA 0, 40, .inl (fun _ => 0))), (a5, .inl (cA 0, 40, .inl (fun _ => 0)))] s H locs := Y
  refine W.widen (k := 5) (n := 2680) (Nat.le_of_ble_eq_true rfl) (Nat.le_of_ble_eq_true rfl) ?_
  exact ti_vret (w := tiw_X0 cA h0) X (fun k => [a1, a2, a3, a4, a5].getD k 0) Y dX0_init_46
abbrev rX1_init : Room := { frames := 1, cells := 2, slots := 80, locals := 32 }
theorem kX1_init_0 : Cond.methodLink RX1 3 objectInit ∈ wsX1_init := ty_m 1 (by decide +kernel)
theorem kX1_init_1 : Cond.instanceMethod objectInit ∈ wsX1_init := ty_m 2 (by decide +kernel)
theorem kX1_init_2 : Cond.code objectInit ⟨#[0xb1]⟩ 1 none ∈ wsX1_init := ty_m 3 (by decide +kernel)
theorem kX1_init_3 : Cond.arrayClass .int ∈ wsX1_init := ty_m 4 (by decide +kernel)
theorem kX1_init_4 : Cond.fieldLink RX1 9 "TrainYard$Row" "cars" "[I" ∈ wsX1_init := ty_m 5 (by decide +kernel)
theorem iX1_init_X1 : ∀ w ∈ wsX10, w ∈ wsX1_init := ty_inp _ [9, 10, 11, 12] (by decide +kernel)
theorem kX1_init_6 : Cond.fieldLink RX1 15 "TrainYard$Row" "trains" "[I" ∈ wsX1_init := ty_m 6 (by decide +kernel)
theorem kX1_init_7 : Cond.fieldLink RX1 18 "TrainYard$Row" "count" "I" ∈ wsX1_init := ty_m 7 (by decide +kernel)
theorem kX1_init_8 : Cond.fieldLink RX1 22 "TrainYard$Row" "trainsMade" "I" ∈ wsX1_init := ty_m 8 (by decide +kernel)
/-- the world behind "TrainYard$Row"() -/
def tiw_X1 (cA : Nat → ClassId) (h0 : Nat) (u : Nat → Nat) : va_W := [(h0, .inr (1, [.ref (u 0), .ref (u 1), .int 0, .int 0])), ((u 0), .inl (cA 0, 40, .inl (fun _ => 0))), ((u 1), .inl (cA 0, 40, .inl (fun _ => 0)))]
set_option maxHeartbeats 4000000 in
set_option maxRecDepth 100000 in
theorem tc_X1 (l : Launch) (D : va_G) (cA : Nat → ClassId) (h0 : Nat) : ∀ sz, Met l yX1_init wsX1_init rX1_init (ti_Pc D cA [(h0, .inr (1, [.null, .null, .int 0, .int 0]))] sz h0) (ti_Q D cA (tiw_X1 cA h0) sz h0) 2 80 (ti_A h0 sz) := by
  refine ti_ofM (maxL := 1) (cc := cX1_init) (own := RX1) (by decide +kernel) rfl rfl (Nat.le_of_ble_eq_true rfl) rfl ?_
  intro p e s m args below meth c ls X hin hA hl locs Y
  have hx := X.1.1
  have hb := X.1.2.1
  refine lv_aload_n hx hb dX1_init_0 rfl (lv_at hl 0 rfl) ?_
  refine ti_obj X kX1_init_0 kX1_init_1 kX1_init_2 hl.1 dX1_init_1 (Nat.le_of_ble_eq_true rfl) (Nat.le_of_ble_eq_true rfl) ?_
  refine lv_aload_n hx hb dX1_init_4 rfl (lv_at hl 0 rfl) ?_
  refine lv_bipush (v := (40 : Int32)) hx hb dX1_init_5 (by decide) ?_
  refine ti_newi (N := 40) X hA Y kX1_init_3 (by decide) (by decide) (Nat.le_of_ble_eq_true rfl) (Nat.le_of_ble_eq_true rfl) (Nat.le_of_ble_eq_true rfl) dX1_init_7 (fun a1 H Y => ?_)
  have Y : ti_Y D (ti_A h0 s.heap.size) [(h0, .inr (1, [.null, .null, .int 0, .int 0])), (a1, .inl (cA 0, 40, .inl (fun _ => 0)))] s H locs := Y
  refine ti_putF (ty := (.array .int)) (C := RX1) (T := TX1) (N := 4) X hin Y tyX1 tyX1_ok nmX1 iX1_init_X1 0 0 rfl rfl (by decide) ⟨rfl, rfl, rfl, rfl⟩ kX1_init_4 (by decide +kernel) rfl rfl (Nat.le_of_ble_eq_true rfl) dX1_init_9 (fun H locs Y => ?_)
  have Y : ti_Y D (ti_A h0 s.heap.size) [(h0, .inr (1, [.ref a1, .null, .int 0, .int 0])), (a1, .inl (cA 0, 40, .inl (fun _ => 0)))] s H locs := Y
  refine lv_aload_n hx hb dX1_init_12 rfl (lv_at hl 0 rfl) ?_
  refine lv_bipush (v := (40 : Int32)) hx hb dX1_init_13 (by decide) ?_
  refine ti_newi (N := 40) X hA Y kX1_init_3 (by decide) (by decide) (Nat.le_of_ble_eq_true rfl) (Nat.le_of_ble_eq_true rfl) (Nat.le_of_ble_eq_true rfl) dX1_init_15 (fun a2 H Y => ?_)
  have Y : ti_Y D (ti_A h0 s.heap.size) [(h0, .inr (1, [.ref a1, .null, .int 0, .int 0])), (a1, .inl (cA 0, 40, .inl (fun _ => 0))), (a2, .inl (cA 0, 40, .inl (fun _ => 0)))] s H locs := Y
  refine ti_putF (ty := (.array .int)) (C := RX1) (T := TX1) (N := 4) X hin Y tyX1 tyX1_ok nmX1 iX1_init_X1 0 1 rfl rfl (by decide) ⟨rfl, rfl, rfl, rfl⟩ kX1_init_6 (by decide +kernel) rfl rfl (Nat.le_of_ble_eq_true rfl) dX1_init_17 (fun H locs Y => ?_)
  have Y : ti_Y D (ti_A h0 s.heap.size) [(h0, .inr (1, [.ref a1, .ref a2, .int 0, .int 0])), (a1, .inl (cA 0, 40, .inl (fun _ => 0))), (a2, .inl (cA 0, 40, .inl (fun _ => 0)))] s H locs := Y
  refine lv_aload_n hx hb dX1_init_20 rfl (lv_at hl 0 rfl) ?_
  refine lv_iconst (v := (0 : Int32)) hx hb dX1_init_21 (by decide) ?_
  refine ti_put (C := RX1) (T := TX1) (N := 4) X Y tyX1 tyX1_ok nmX1 iX1_init_X1 0 2 rfl rfl (by decide) ⟨rfl, rfl, rfl, rfl⟩ kX1_init_7 (Nat.le_of_ble_eq_true rfl) dX1_init_22 (fun H locs Y => ?_)
  have Y : ti_Y D (ti_A h0 s.heap.size) [(h0, .inr (1, [.ref a1, .ref a2, .int 0, .int 0])), (a1, .inl (cA 0, 40, .inl (fun _ => 0))), (a2, .inl (cA 0, 40, .inl (fun _ => 0)))] s H locs := Y
  refine lv_aload_n hx hb dX1_init_25 rfl (lv_at hl 0 rfl) ?_
  refine lv_iconst (v := (0 : Int32)) hx hb dX1_init_26 (by decide) ?_
  refine ti_put (C := RX1) (T := TX1) (N := 4) X Y tyX1 tyX1_ok nmX1 iX1_init_X1 0 3 rfl rfl (by decide) ⟨rfl, rfl, rfl, rfl⟩ kX1_init_8 (Nat.le_of_ble_eq_true rfl) dX1_init_27 (fun H locs Y => ?_)
  have Y : ti_Y D (ti_A h0 s.heap.size) [(h0, .inr (1, [.ref a1, .ref a2, .int 0, .int 0])), (a1, .inl (cA 0, 40, .inl (fun _ => 0))), (a2, .inl (cA 0, 40, .inl (fun _ => 0)))] s H locs := Y
  refine W.widen (k := 2) (n := 80) (Nat.le_of_ble_eq_true rfl) (Nat.le_of_ble_eq_true rfl) ?_
  exact ti_vret (w := tiw_X1 cA h0) X (fun k => [a1, a2].getD k 0) Y dX1_init_30
abbrev rX2_init : Room := { frames := 1, cells := 2, slots := 1920, locals := 32 }
theorem kX2_init_0 : Cond.methodLink RX2 3 objectInit ∈ wsX2_init := ty_m 1 (by decide +kernel)
theorem kX2_init_1 : Cond.instanceMethod objectInit ∈ wsX2_init := ty_m 2 (by decide +kernel)
theorem kX2_init_2 : Cond.code objectInit ⟨#[0xb1]⟩ 1 none ∈ wsX2_init := ty_m 3 (by decide +kernel)
theorem kX2_init_3 : Cond.arrayClass .int ∈ wsX2_init := ty_m 4 (by decide +kernel)
theorem kX2_init_4 : Cond.fieldLink RX2 9 "TrainYard$Search" "rounds" "[I" ∈ wsX2_init := ty_m 5 (by decide +kernel)
theorem iX2_init_X2 : ∀ w ∈ wsX20, w ∈ wsX2_init := ty_inp _ [9, 10, 11, 12] (by decide +kernel)
theorem kX2_init_6 : Cond.fieldLink RX2 15 "TrainYard$Search" "found" "[I" ∈ wsX2_init := ty_m 6 (by decide +kernel)
theorem kX2_init_7 : Cond.fieldLink RX2 18 "TrainYard$Search" "foundCount" "I" ∈ wsX2_init := ty_m 7 (by decide +kernel)
theorem kX2_init_8 : Cond.fieldLink RX2 22 "TrainYard$Search" "round" "I" ∈ wsX2_init := ty_m 8 (by decide +kernel)
/-- the world behind "TrainYard$Search"() -/
def tiw_X2 (cA : Nat → ClassId) (h0 : Nat) (u : Nat → Nat) : va_W := [(h0, .inr (2, [.ref (u 0), .ref (u 1), .int 0, .int 0])), ((u 0), .inl (cA 0, 1280, .inl (fun _ => 0))), ((u 1), .inl (cA 0, 640, .inl (fun _ => 0)))]
set_option maxHeartbeats 4000000 in
set_option maxRecDepth 100000 in
theorem tc_X2 (l : Launch) (D : va_G) (cA : Nat → ClassId) (h0 : Nat) : ∀ sz, Met l yX2_init wsX2_init rX2_init (ti_Pc D cA [(h0, .inr (2, [.null, .null, .int 0, .int 0]))] sz h0) (ti_Q D cA (tiw_X2 cA h0) sz h0) 2 1920 (ti_A h0 sz) := by
  refine ti_ofM (maxL := 1) (cc := cX2_init) (own := RX2) (by decide +kernel) rfl rfl (Nat.le_of_ble_eq_true rfl) rfl ?_
  intro p e s m args below meth c ls X hin hA hl locs Y
  have hx := X.1.1
  have hb := X.1.2.1
  refine lv_aload_n hx hb dX2_init_0 rfl (lv_at hl 0 rfl) ?_
  refine ti_obj X kX2_init_0 kX2_init_1 kX2_init_2 hl.1 dX2_init_1 (Nat.le_of_ble_eq_true rfl) (Nat.le_of_ble_eq_true rfl) ?_
  refine lv_aload_n hx hb dX2_init_4 rfl (lv_at hl 0 rfl) ?_
  refine lv_sipush (v := (1280 : Int32)) hx hb dX2_init_5 (by decide) ?_
  refine ti_newi (N := 1280) X hA Y kX2_init_3 (by decide) (by decide) (Nat.le_of_ble_eq_true rfl) (Nat.le_of_ble_eq_true rfl) (Nat.le_of_ble_eq_true rfl) dX2_init_8 (fun a1 H Y => ?_)
  have Y : ti_Y D (ti_A h0 s.heap.size) [(h0, .inr (2, [.null, .null, .int 0, .int 0])), (a1, .inl (cA 0, 1280, .inl (fun _ => 0)))] s H locs := Y
  refine ti_putF (ty := (.array .int)) (C := RX2) (T := TX2) (N := 4) X hin Y tyX2 tyX2_ok nmX2 iX2_init_X2 0 0 rfl rfl (by decide) ⟨rfl, rfl, rfl, rfl⟩ kX2_init_4 (by decide +kernel) rfl rfl (Nat.le_of_ble_eq_true rfl) dX2_init_10 (fun H locs Y => ?_)
  have Y : ti_Y D (ti_A h0 s.heap.size) [(h0, .inr (2, [.ref a1, .null, .int 0, .int 0])), (a1, .inl (cA 0, 1280, .inl (fun _ => 0)))] s H locs := Y
  refine lv_aload_n hx hb dX2_init_13 rfl (lv_at hl 0 rfl) ?_
  refine lv_sipush (v := (640 : Int32)) hx hb dX2_init_14 (by decide) ?_
  refine ti_newi (N := 640) X hA Y kX2_init_3 (by decide) (by decide) (Nat.le_of_ble_eq_true rfl) (Nat.le_of_ble_eq_true rfl) (Nat.le_of_ble_eq_true rfl) dX2_init_17 (fun a2 H Y => ?_)
  have Y : ti_Y D (ti_A h0 s.heap.size) [(h0, .inr (2, [.ref a1, .null, .int 0, .int 0])), (a1, .inl (cA 0, 1280, .inl (fun _ => 0))), (a2, .inl (cA 0, 640, .inl (fun _ => 0)))] s H locs := Y
  refine ti_putF (ty := (.array .int)) (C := RX2) (T := TX2) (N := 4) X hin Y tyX2 tyX2_ok nmX2 iX2_init_X2 0 1 rfl rfl (by decide) ⟨rfl, rfl, rfl, rfl⟩ kX2_init_6 (by decide +kernel) rfl rfl (Nat.le_of_ble_eq_true rfl) dX2_init_19 (fun H locs Y => ?_)
  have Y : ti_Y D (ti_A h0 s.heap.size) [(h0, .inr (2, [.ref a1, .ref a2, .int 0, .int 0])), (a1, .inl (cA 0, 1280, .inl (fun _ => 0))), (a2, .inl (cA 0, 640, .inl (fun _ => 0)))] s H locs := Y
  refine lv_aload_n hx hb dX2_init_22 rfl (lv_at hl 0 rfl) ?_
  refine lv_iconst (v := (0 : Int32)) hx hb dX2_init_23 (by decide) ?_
  refine ti_put (C := RX2) (T := TX2) (N := 4) X Y tyX2 tyX2_ok nmX2 iX2_init_X2 0 2 rfl rfl (by decide) ⟨rfl, rfl, rfl, rfl⟩ kX2_init_7 (Nat.le_of_ble_eq_true rfl) dX2_init_24 (fun H locs Y => ?_)
  have Y : ti_Y D (ti_A h0 s.heap.size) [(h0, .inr (2, [.ref a1, .ref a2, .int 0, .int 0])), (a1, .inl (cA 0, 1280, .inl (fun _ => 0))), (a2, .inl (cA 0, 640, .inl (fun _ => 0)))] s H locs := Y
  refine lv_aload_n hx hb dX2_init_27 rfl (lv_at hl 0 rfl) ?_
  refine lv_iconst (v := (0 : Int32)) hx hb dX2_init_28 (by decide) ?_
  refine ti_put (C := RX2) (T := TX2) (N := 4) X Y tyX2 tyX2_ok nmX2 iX2_init_X2 0 3 rfl rfl (by decide) ⟨rfl, rfl, rfl, rfl⟩ kX2_init_8 (Nat.le_of_ble_eq_true rfl) dX2_init_29 (fun H locs Y => ?_)
  have Y : ti_Y D (ti_A h0 s.heap.size) [(h0, .inr (2, [.ref a1, .ref a2, .int 0, .int 0])), (a1, .inl (cA 0, 1280, .inl (fun _ => 0))), (a2, .inl (cA 0, 640, .inl (fun _ => 0)))] s H locs := Y
  refine W.widen (k := 2) (n := 1920) (Nat.le_of_ble_eq_true rfl) (Nat.le_of_ble_eq_true rfl) ?_
  exact ti_vret (w := tiw_X2 cA h0) X (fun k => [a1, a2].getD k 0) Y dX2_init_32
abbrev rX3_init : Room := { frames := 2, cells := 12, slots := 2833, locals := 52 }
theorem kX3_init_0 : Cond.methodLink RX3 3 objectInit ∈ wsX3_init := ty_m 1 (by decide +kernel)
theorem kX3_init_1 : Cond.instanceMethod objectInit ∈ wsX3_init := ty_m 2 (by decide +kernel)
theorem kX3_init_2 : Cond.code objectInit ⟨#[0xb1]⟩ 1 none ∈ wsX3_init := ty_m 3 (by decide +kernel)
theorem iX3_init_X0 : ∀ w ∈ wsX00, w ∈ wsX3_init := ty_inp _ [44, 45, 46, 47, 48] (by decide +kernel)
theorem kX3_init_4 : Cond.classLink RX3 9 RX0 ∈ wsX3_init := ty_m 4 (by decide +kernel)
theorem kX3_init_5 : Cond.instantiable RX0 5 ∈ wsX3_init := ty_m 5 (by decide +kernel)
theorem kX3_init_6 : Cond.initialized RX0 ∈ wsX3_init := ty_m 6 (by decide +kernel)
theorem kX3_init_7 : Cond.instanceMethod yX0_init ∈ wsX3_init := ty_m 24 (by decide +kernel)
theorem kX3_init_8 : Cond.fieldLink RX3 12 "TrainYard$Yard" "freight" "LTrainYard$Freight;" ∈ wsX3_init := ty_m 7 (by decide +kernel)
theorem iX3_init_X3 : ∀ w ∈ wsX30, w ∈ wsX3_init := ty_inp _ [49, 50, 51, 52, 53, 54, 55, 56, 57, 58, 59, 60, 61] (by decide +kernel)
theorem iX3_init_X1 : ∀ w ∈ wsX10, w ∈ wsX3_init := ty_inp _ [62, 63, 64, 65] (by decide +kernel)
theorem kX3_init_11 : Cond.classLink RX3 18 RX1 ∈ wsX3_init := ty_m 8 (by decide +kernel)
theorem kX3_init_12 : Cond.instantiable RX1 4 ∈ wsX3_init := ty_m 9 (by decide +kernel)
theorem kX3_init_13 : Cond.initialized RX1 ∈ wsX3_init := ty_m 10 (by decide +kernel)
theorem kX3_init_14 : Cond.instanceMethod yX1_init ∈ wsX3_init := ty_m 33 (by decide +kernel)
theorem kX3_init_15 : Cond.fieldLink RX3 21 "TrainYard$Yard" "row" "LTrainYard$Row;" ∈ wsX3_init := ty_m 11 (by decide +kernel)
theorem kX3_init_16 : Cond.arrayClass .int ∈ wsX3_init := ty_m 12 (by decide +kernel)
theorem kX3_init_17 : Cond.fieldLink RX3 25 "TrainYard$Yard" "held" "[I" ∈ wsX3_init := ty_m 13 (by decide +kernel)
theorem kX3_init_18 : Cond.fieldLink RX3 29 "TrainYard$Yard" "steps" "I" ∈ wsX3_init := ty_m 14 (by decide +kernel)
theorem kX3_init_19 : Cond.fieldLink RX3 33 "TrainYard$Yard" "wholeTrains" "I" ∈ wsX3_init := ty_m 15 (by decide +kernel)
theorem kX3_init_20 : Cond.fieldLink RX3 36 "TrainYard$Yard" "thingsGone" "I" ∈ wsX3_init := ty_m 16 (by decide +kernel)
theorem kX3_init_21 : Cond.fieldLink RX3 39 "TrainYard$Yard" "thingsMoved" "I" ∈ wsX3_init := ty_m 17 (by decide +kernel)
theorem kX3_init_22 : Cond.fieldLink RX3 42 "TrainYard$Yard" "wordsMoved" "I" ∈ wsX3_init := ty_m 18 (by decide +kernel)
theorem kX3_init_23 : Cond.fieldLink RX3 45 "TrainYard$Yard" "emptied" "I" ∈ wsX3_init := ty_m 19 (by decide +kernel)
theorem kX3_init_24 : Cond.fieldLink RX3 48 "TrainYard$Yard" "newPlaces" "[I" ∈ wsX3_init := ty_m 20 (by decide +kernel)
theorem kX3_init_25 : Cond.fieldLink RX3 51 "TrainYard$Yard" "moved" "[I" ∈ wsX3_init := ty_m 21 (by decide +kernel)
theorem kX3_init_26 : Cond.fieldLink RX3 54 "TrainYard$Yard" "movedCount" "I" ∈ wsX3_init := ty_m 22 (by decide +kernel)
theorem kX3_init_27 : Cond.fieldLink RX3 57 "TrainYard$Yard" "followed" "I" ∈ wsX3_init := ty_m 23 (by decide +kernel)
/-- the world behind "TrainYard$Yard"() -/
def tiw_X3 (cA : Nat → ClassId) (h0 : Nat) (u : Nat → Nat) : va_W := [(h0, .inr (3, [.ref (u 0), .ref (u 6), .ref (u 9), .int 0, .int 0, .int 0, .int 0, .int 0, .int (-1), .ref (u 10), .ref (u 11), .int 0, .int 0])), ((u 0), .inr (0, [.ref (u 1), .ref (u 2), .ref (u 3), .ref (u 4), .ref (u 5)])), ((u 1), .inl (cA 0, 1280, .inl (fun _ => 0))), ((u 2), .inl (cA 1, 1280, .inl (fun _ => 0))), ((u 3), .inl (cA 0, 40, .inl (fun _ => 0))), ((u 4), .inl (cA 0, 40, .inl (fun _ => 0))), ((u 5), .inl (cA 0, 40, .inl (fun _ => 0))), ((u 6), .inr (1, [.ref (u 7), .ref (u 8), .int 0, .int 0])), ((u 7), .inl (cA 0, 40, .inl (fun _ => 0))), ((u 8), .inl (cA 0, 40, .inl (fun _ => 0))), ((u 9), .inl (cA 0, 16, .inl (fun j => if j < 16 then (-1 : Int32) else 0))), ((u 10), .inl (cA 0, 32, .inl (fun _ => 0))), ((u 11), .inl (cA 0, 16, .inl (fun _ => 0)))]
set_option maxHeartbeats 4000000 in
set_option maxRecDepth 100000 in
theorem tc_X3 (l : Launch) (D : va_G) (cA : Nat → ClassId) (h0 : Nat) : ∀ sz, Met l yX3_init wsX3_init rX3_init (ti_Pc D cA [(h0, .inr (3, [.null, .null, .null, .int 0, .int 0, .int 0, .int 0, .int 0, .int 0, .null, .null, .int 0, .int 0]))] sz h0) (ti_Q D cA (tiw_X3 cA h0) sz h0) 12 2833 (ti_A h0 sz) := by
  refine ti_ofM (maxL := 1) (cc := cX3_init) (own := RX3) (by decide +kernel) rfl rfl (Nat.le_of_ble_eq_true rfl) rfl ?_
  intro p e s m args below meth c ls X hin hA hl locs Y
  have hx := X.1.1
  have hb := X.1.2.1
  refine lv_aload_n hx hb dX3_init_0 rfl (lv_at hl 0 rfl) ?_
  refine ti_obj X kX3_init_0 kX3_init_1 kX3_init_2 hl.1 dX3_init_1 (Nat.le_of_ble_eq_true rfl) (Nat.le_of_ble_eq_true rfl) ?_
  refine lv_aload_n hx hb dX3_init_4 rfl (lv_at hl 0 rfl) ?_
  refine ti_new (ci := 0) (fs := [.null, .null, .null, .null, .null]) (C := RX0) (T := TX0) (N := 5) X hA Y tyX0 tyX0_ok iX3_init_X0 kX3_init_4 kX3_init_5 kX3_init_6 rfl (fun j hj => by rcases (show j = 0 ∨ j = 1 ∨ j = 2 ∨ j = 3 ∨ j = 4 by omega) with rfl | rfl | rfl | rfl | rfl <;> rfl) (Nat.le_of_ble_eq_true rfl) (Nat.le_of_ble_eq_true rfl) dX3_init_5 (fun a1 H Y => ?_)
  have Y : ti_Y D (ti_A h0 s.heap.size) [(h0, .inr (3, [.null, .null, .null, .int 0, .int 0, .int 0, .int 0, .int 0, .int 0, .null, .null, .int 0, .int 0])), (a1, .inr (0, [.null, .null, .null, .null, .null]))] s H locs := Y
  refine lv_dup hx hb dX3_init_8 rfl ?_
  refine ti_call (ws0 := [(h0, .inr (3, [.null, .null, .null, .int 0, .int 0, .int 0, .int 0, .int 0, .int 0, .null, .null, .int 0, .int 0]))]) (rest := [.ref a1, .ref h0]) X hA Y (tc_X0 l D cA a1) (fun hM hp => va_runIN (As := []) (rest := [.ref a1, .ref h0]) X.1 hM ⟨va_cnB 0 X.1.2.2.2.2 gX3_init_X0_init_n11 rfl rfl rfl (X.2.2.2.2 _ (ty_m 0 rfl)) (X.1.2.2.2.2 _ kX3_init_6) (by decide +kernel) ⟨Nat.le_of_ble_eq_true rfl, Nat.le_of_ble_eq_true rfl⟩, rfl, X.1.2.2.2.2 _ kX3_init_7⟩ hp rfl rfl hl.1 rfl (lv_room (Nat.le_of_ble_eq_true rfl)) dX3_init_9 ⟨Nat.le_of_ble_eq_true rfl, Nat.le_of_ble_eq_true rfl⟩) (fun u1 H locs Y => ?_)
  have Y : ti_Y D (ti_A h0 s.heap.size) [(h0, .inr (3, [.null, .null, .null, .int 0, .int 0, .int 0, .int 0, .int 0, .int 0, .null, .null, .int 0, .int 0])), (a1, .inr (0, [.ref (u1 0), .ref (u1 1), .ref (u1 2), .ref (u1 3), .ref (u1 4)])), ((u1 0), .inl (cA 0, 1280, .inl (fun _ => 0))), ((u1 1), .inl (cA 1, 1280, .inl (fun _ => 0))), ((u1 2), .inl (cA 0, 40, .inl (fun _ => 0))), ((u1 3), .inl (cA 0, 40, .inl (fun _ => 0))), ((u1 4), .inl (cA 0, 40, .inl (fun _ => 0)))] s H locs := Y
  refine ti_putF (ty := (.object "TrainYard$Freight")) (C := RX3) (T := TX3) (N := 13) X hin Y tyX3 tyX3_ok nmX3 iX3_init_X3 0 0 rfl rfl (by decide) ⟨rfl, rfl, rfl, rfl⟩ kX3_init_8 (by decide +kernel) rfl rfl (Nat.le_of_ble_eq_true rfl) dX3_init_12 (fun H locs Y => ?_)
  have Y : ti_Y D (ti_A h0 s.heap.size) [(h0, .inr (3, [.ref a1, .null, .null, .int 0, .int 0, .int 0, .int 0, .int 0, .int 0, .null, .null, .int 0, .int 0])), (a1, .inr (0, [.ref (u1 0), .ref (u1 1), .ref (u1 2), .ref (u1 3), .ref (u1 4)])), ((u1 0), .inl (cA 0, 1280, .inl (fun _ => 0))), ((u1 1), .inl (cA 1, 1280, .inl (fun _ => 0))), ((u1 2), .inl (cA 0, 40, .inl (fun _ => 0))), ((u1 3), .inl (cA 0, 40, .inl (fun _ => 0))), ((u1 4), .inl (cA 0, 40, .inl (fun _ => 0)))] s H locs := Y
  refine lv_aload_n hx hb dX3_init_15 rfl (lv_at hl 0 rfl) ?_
  refine ti_new (ci := 1) (fs := [.null, .null, .int 0, .int 0]) (C := RX1) (T := TX1) (N := 4) X hA Y tyX1 tyX1_ok iX3_init_X1 kX3_init_11 kX3_init_12 kX3_init_13 rfl (fun j hj => by rcases (show j = 0 ∨ j = 1 ∨ j = 2 ∨ j = 3 by omega) with rfl | rfl | rfl | rfl <;> rfl) (Nat.le_of_ble_eq_true rfl) (Nat.le_of_ble_eq_true rfl) dX3_init_16 (fun a2 H Y => ?_)
  have Y : ti_Y D (ti_A h0 s.heap.size) [(h0, .inr (3, [.ref a1, .null, .null, .int 0, .int 0, .int 0, .int 0, .int 0, .int 0, .null, .null, .int 0, .int 0])), (a1, .inr (0, [.ref (u1 0), .ref (u1 1), .ref (u1 2), .ref (u1 3), .ref (u1 4)])), ((u1 0), .inl (cA 0, 1280, .inl (fun _ => 0))), ((u1 1), .inl (cA 1, 1280, .inl (fun _ => 0))), ((u1 2), .inl (cA 0, 40, .inl (fun _ => 0))), ((u1 3), .inl (cA 0, 40, .inl (fun _ => 0))), ((u1 4), .inl (cA 0, 40, .inl (fun _ => 0))), (a2, .inr (1, [.null, .null, .int 0, .int 0]))] s H locs := Y
  refine lv_dup hx hb dX3_init_19 rfl ?_
  refine ti_call (ws0 := [(h0, .inr (3, [.ref a1, .null, .null, .int 0, .int 0, .int 0, .int 0, .int 0, .int 0, .null, .null, .int 0, .int 0])), (a1, .inr (0, [.ref (u1 0), .ref (u1 1), .ref (u1 2), .ref (u1 3), .ref (u1 4)])), ((u1 0), .inl (cA 0, 1280, .inl (fun _ => 0))), ((u1 1), .inl (cA 1, 1280, .inl (fun _ => 0))), ((u1 2), .inl (cA 0, 40, .inl (fun _ => 0))), ((u1 3), .inl (cA 0, 40, .inl (fun _ => 0))), ((u1 4), .inl (cA 0, 40, .inl (fun _ => 0)))]) (rest := [.ref a2, .ref h0]) X hA Y (tc_X1 l D cA a2) (fun hM hp => va_runIN (As := []) (rest := [.ref a2, .ref h0]) X.1 hM ⟨va_cnB 0 X.1.2.2.2.2 gX3_init_X1_init_n20 rfl rfl rfl (X.2.2.2.2 _ (ty_m 1 rfl)) (X.1.2.2.2.2 _ kX3_init_13) (by decide +kernel) ⟨Nat.le_of_ble_eq_true rfl, Nat.le_of_ble_eq_true rfl⟩, rfl, X.1.2.2.2.2 _ kX3_init_14⟩ hp rfl rfl hl.1 rfl (lv_room (Nat.le_of_ble_eq_true rfl)) dX3_init_20 ⟨Nat.le_of_ble_eq_true rfl, Nat.le_of_ble_eq_true rfl⟩) (fun u2 H locs Y => ?_)
  have Y : ti_Y D (ti_A h0 s.heap.size) [(h0, .inr (3, [.ref a1, .null, .null, .int 0, .int 0, .int 0, .int 0, .int 0, .int 0, .null, .null, .int 0, .int 0])), (a1, .inr (0, [.ref (u1 0), .ref (u1 1), .ref (u1 2), .ref (u1 3), .ref (u1 4)])), ((u1 0), .inl (cA 0, 1280, .inl (fun _ => 0))), ((u1 1), .inl (cA 1, 1280, .inl (fun _ => 0))), ((u1 2), .inl (cA 0, 40, .inl (fun _ => 0))), ((u1 3), .inl (cA 0, 40, .inl (fun _ => 0))), ((u1 4), .inl (cA 0, 40, .inl (fun _ => 0))), (a2, .inr (1, [.ref (u2 0), .ref (u2 1), .int 0, .int 0])), ((u2 0), .inl (cA 0, 40, .inl (fun _ => 0))), ((u2 1), .inl (cA 0, 40, .inl (fun _ => 0)))] s H locs := Y
  refine ti_putF (ty := (.object "TrainYard$Row")) (C := RX3) (T := TX3) (N := 13) X hin Y tyX3 tyX3_ok nmX3 iX3_init_X3 0 1 rfl rfl (by decide) ⟨rfl, rfl, rfl, rfl⟩ kX3_init_15 (by decide +kernel) rfl rfl (Nat.le_of_ble_eq_true rfl) dX3_init_23 (fun H locs Y => ?_)
  have Y : ti_Y D (ti_A h0 s.heap.size) [(h0, .inr (3, [.ref a1, .ref a2, .null, .int 0, .int 0, .int 0, .int 0, .int 0, .int 0, .null, .null, .int 0, .int 0])), (a1, .inr (0, [.ref (u1 0), .ref (u1 1), .ref (u1 2), .ref (u1 3), .ref (u1 4)])), ((u1 0), .inl (cA 0, 1280, .inl (fun _ => 0))), ((u1 1), .inl (cA 1, 1280, .inl (fun _ => 0))), ((u1 2), .inl (cA 0, 40, .inl (fun _ => 0))), ((u1 3), .inl (cA 0, 40, .inl (fun _ => 0))), ((u1 4), .inl (cA 0, 40, .inl (fun _ => 0))), (a2, .inr (1, [.ref (u2 0), .ref (u2 1), .int 0, .int 0])), ((u2 0), .inl (cA 0, 40, .inl (fun _ => 0))), ((u2 1), .inl (cA 0, 40, .inl (fun _ => 0)))] s H locs := Y
  refine lv_aload_n hx hb dX3_init_26 rfl (lv_at hl 0 rfl) ?_
  refine lv_bipush (v := (16 : Int32)) hx hb dX3_init_27 (by decide) ?_
  refine ti_newi (N := 16) X hA Y kX3_init_16 (by decide) (by decide) (Nat.le_of_ble_eq_true rfl) (Nat.le_of_ble_eq_true rfl) (Nat.le_of_ble_eq_true rfl) dX3_init_29 (fun a3 H Y => ?_)
  have Y : ti_Y D (ti_A h0 s.heap.size) [(h0, .inr (3, [.ref a1, .ref a2, .null, .int 0, .int 0, .int 0, .int 0, .int 0, .int 0, .null, .null, .int 0, .int 0])), (a1, .inr (0, [.ref (u1 0), .ref (u1 1), .ref (u1 2), .ref (u1 3), .ref (u1 4)])), ((u1 0), .inl (cA 0, 1280, .inl (fun _ => 0))), ((u1 1), .inl (cA 1, 1280, .inl (fun _ => 0))), ((u1 2), .inl (cA 0, 40, .inl (fun _ => 0))), ((u1 3), .inl (cA 0, 40, .inl (fun _ => 0))), ((u1 4), .inl (cA 0, 40, .inl (fun _ => 0))), (a2, .inr (1, [.ref (u2 0), .ref (u2 1), .int 0, .int 0])), ((u2 0), .inl (cA 0, 40, .inl (fun _ => 0))), ((u2 1), .inl (cA 0, 40, .inl (fun _ => 0))), (a3, .inl (cA 0, 16, .inl (fun _ => 0)))] s H locs := Y
  refine ti_putF (ty := (.array .int)) (C := RX3) (T := TX3) (N := 13) X hin Y tyX3 tyX3_ok nmX3 iX3_init_X3 0 2 rfl rfl (by decide) ⟨rfl, rfl, rfl, rfl⟩ kX3_init_17 (by decide +kernel) rfl rfl (Nat.le_of_ble_eq_true rfl) dX3_init_31 (fun H locs Y => ?_)
  have Y : ti_Y D (ti_A h0 s.heap.size) [(h0, .inr (3, [.ref a1, .ref a2, .ref a3, .int 0, .int 0, .int 0, .int 0, .int 0, .int 0, .null, .null, .int 0, .int 0])), (a1, .inr (0, [.ref (u1 0), .ref (u1 1), .ref (u1 2), .ref (u1 3), .ref (u1 4)])), ((u1 0), .inl (cA 0, 1280, .inl (fun _ => 0))), ((u1 1), .inl (cA 1, 1280, .inl (fun _ => 0))), ((u1 2), .inl (cA 0, 40, .inl (fun _ => 0))), ((u1 3), .inl (cA 0, 40, .inl (fun _ => 0))), ((u1 4), .inl (cA 0, 40, .inl (fun _ => 0))), (a2, .inr (1, [.ref (u2 0), .ref (u2 1), .int 0, .int 0])), ((u2 0), .inl (cA 0, 40, .inl (fun _ => 0))), ((u2 1), .inl (cA 0, 40, .inl (fun _ => 0))), (a3, .inl (cA 0, 16, .inl (fun _ => 0)))] s H locs := Y
  refine lv_aload_n hx hb dX3_init_34 rfl (lv_at hl 0 rfl) ?_
  refine lv_iconst (v := (0 : Int32)) hx hb dX3_init_35 (by decide) ?_
  refine ti_put (C := RX3) (T := TX3) (N := 13) X Y tyX3 tyX3_ok nmX3 iX3_init_X3 0 3 rfl rfl (by decide) ⟨rfl, rfl, rfl, rfl⟩ kX3_init_18 (Nat.le_of_ble_eq_true rfl) dX3_init_36 (fun H locs Y => ?_)
  have Y : ti_Y D (ti_A h0 s.heap.size) [(h0, .inr (3, [.ref a1, .ref a2, .ref a3, .int 0, .int 0, .int 0, .int 0, .int 0, .int 0, .null, .null, .int 0, .int 0])), (a1, .inr (0, [.ref (u1 0), .ref (u1 1), .ref (u1 2), .ref (u1 3), .ref (u1 4)])), ((u1 0), .inl (cA 0, 1280, .inl (fun _ => 0))), ((u1 1), .inl (cA 1, 1280, .inl (fun _ => 0))), ((u1 2), .inl (cA 0, 40, .inl (fun _ => 0))), ((u1 3), .inl (cA 0, 40, .inl (fun _ => 0))), ((u1 4), .inl (cA 0, 40, .inl (fun _ => 0))), (a2, .inr (1, [.ref (u2 0), .ref (u2 1), .int 0, .int 0])), ((u2 0), .inl (cA 0, 40, .inl (fun _ => 0))), ((u2 1), .inl (cA 0, 40, .inl (fun _ => 0))), (a3, .inl (cA 0, 16, .inl (fun _ => 0)))] s H locs := Y
  refine lv_aload_n hx hb dX3_init_39 rfl (lv_at hl 0 rfl) ?_
  refine lv_iconst (v := (0 : Int32)) hx hb dX3_init_40 (by decide) ?_
  refine ti_put (C := RX3) (T := TX3) (N := 13) X Y tyX3 tyX3_ok nmX3 iX3_init_X3 0 4 rfl rfl (by decide) ⟨rfl, rfl, rfl, rfl⟩ kX3_init_19 (Nat.le_of_ble_eq_true rfl) dX3_init_41 (fun H locs Y => ?_)
  have Y : ti_Y D (ti_A h0 s.heap.size) [(h0, .inr (3, [.ref a1, .ref a2, .ref a3, .int 0, .int 0, .int 0, .int 0, .int 0, .int 0, .null, .null, .int 0, .int 0])), (a1, .inr (0, [.ref (u1 0), .ref (u1 1), .ref (u1 2), .ref (u1 3), .ref (u1 4)])), ((u1 0), .inl (cA 0, 1280, .inl (fun _ => 0))), ((u1 1), .inl (cA 1, 1280, .inl (fun _ => 0))), ((u1 2), .inl (cA 0, 40, .inl (fun _ => 0))), ((u1 3), .inl (cA 0, 40, .inl (fun _ => 0))), ((u1 4), .inl (cA 0, 40, .inl (fun _ => 0))), (a2, .inr (1, [.ref (u2 0), .ref (u2 1), .int 0, .int 0])), ((u2 0), .inl (cA 0, 40, .inl (fun _ => 0))), ((u2 1), .inl (cA 0, 40, .inl (fun _ => 0))), (a3, .inl (cA 0, 16, .inl (fun _ => 0)))] s H locs := Y
  refine lv_aload_n hx hb dX3_init_44 rfl (lv_at hl 0 rfl) ?_
  refine lv_iconst (v := (0 : Int32)) hx hb dX3_init_45 (by decide) ?_
  refine ti_put (C := RX3) (T := TX3) (N := 13) X Y tyX3 tyX3_ok nmX3 iX3_init_X3 0 5 rfl rfl (by decide) ⟨rfl, rfl, rfl, rfl⟩ kX3_init_20 (Nat.le_of_ble_eq_true rfl) dX3_init_46 (fun H locs Y => ?_)
  have Y : ti_Y D (ti_A h0 s.heap.size) [(h0, .inr (3, [.ref a1, .ref a2, .ref a3, .int 0, .int 0, .int 0, .int 0, .int 0, .int 0, .null, .null, .int 0, .int 0])), (a1, .inr (0, [.ref (u1 0), .ref (u1 1), .ref (u1 2), .ref (u1 3), .ref (u1 4)])), ((u1 0), .inl (cA 0, 1280, .inl (fun _ => 0))), ((u1 1), .inl (cA 1, 1280, .inl (fun _ => 0))), ((u1 2), .inl (cA 0, 40, .inl (fun _ => 0))), ((u1 3), .inl (cA 0, 40, .inl (fun _ => 0))), ((u1 4), .inl (cA 0, 40, .inl (fun _ => 0))), (a2, .inr (1, [.ref (u2 0), .ref (u2 1), .int 0, .int 0])), ((u2 0), .inl (cA 0, 40, .inl (fun _ => 0))), ((u2 1), .inl (cA 0, 40, .inl (fun _ => 0))), (a3, .inl (cA 0, 16, .inl (fun _ => 0)))] s H locs := Y
  refine lv_aload_n hx hb dX3_init_49 rfl (lv_at hl 0 rfl) ?_
  refine lv_iconst (v := (0 : Int32)) hx hb dX3_init_50 (by decide) ?_
  refine ti_put (C := RX3) (T := TX3) (N := 13) X Y tyX3 tyX3_ok nmX3 iX3_init_X3 0 6 rfl rfl (by decide) ⟨rfl, rfl, rfl, rfl⟩ kX3_init_21 (Nat.le_of_ble_eq_true rfl) dX3_init_51 (fun H locs Y => ?_)
  have Y : ti_Y D (ti_A h0 s.heap.size) [(h0, .inr (3, [.ref a1, .ref a2, .ref a3, .int 0, .int 0, .int 0, .int 0, .int 0, .int 0, .null, .null, .int 0, .int 0])), (a1, .inr (0, [.ref (u1 0), .ref (u1 1), .ref (u1 2), .ref (u1 3), .ref (u1 4)])), ((u1 0), .inl (cA 0, 1280, .inl (fun _ => 0))), ((u1 1), .inl (cA 1, 1280, .inl (fun _ => 0))), ((u1 2), .inl (cA 0, 40, .inl (fun _ => 0))), ((u1 3), .inl (cA 0, 40, .inl (fun _ => 0))), ((u1 4), .inl (cA 0, 40, .inl (fun _ => 0))), (a2, .inr (1, [.ref (u2 0), .ref (u2 1), .int 0, .int 0])), ((u2 0), .inl (cA 0, 40, .inl (fun _ => 0))), ((u2 1), .inl (cA 0, 40, .inl (fun _ => 0))), (a3, .inl (cA 0, 16, .inl (fun _ => 0)))] s H locs := Y
  refine lv_aload_n hx hb dX3_init_54 rfl (lv_at hl 0 rfl) ?_
  refine lv_iconst (v := (0 : Int32)) hx hb dX3_init_55 (by decide) ?_
  refine ti_put (C := RX3) (T := TX3) (N := 13) X Y tyX3 tyX3_ok nmX3 iX3_init_X3 0 7 rfl rfl (by decide) ⟨rfl, rfl, rfl, rfl⟩ kX3_init_22 (Nat.le_of_ble_eq_true rfl) dX3_init_56 (fun H locs Y => ?_)
  have Y : ti_Y D (ti_A h0 s.heap.size) [(h0, .inr (3, [.ref a1, .ref a2, .ref a3, .int 0, .int 0, .int 0, .int 0, .int 0, .int 0, .null, .null, .int 0, .int 0])), (a1, .inr (0, [.ref (u1 0), .ref (u1 1), .ref (u1 2), .ref (u1 3), .ref (u1 4)])), ((u1 0), .inl (cA 0, 1280, .inl (fun _ => 0))), ((u1 1), .inl (cA 1, 1280, .inl (fun _ => 0))), ((u1 2), .inl (cA 0, 40, .inl (fun _ => 0))), ((u1 3), .inl (cA 0, 40, .inl (fun _ => 0))), ((u1 4), .inl (cA 0, 40, .inl (fun _ => 0))), (a2, .inr (1, [.ref (u2 0), .ref (u2 1), .int 0, .int 0])), ((u2 0), .inl (cA 0, 40, .inl (fun _ => 0))), ((u2 1), .inl (cA 0, 40, .inl (fun _ => 0))), (a3, .inl (cA 0, 16, .inl (fun _ => 0)))] s H locs := Y
  refine lv_aload_n hx hb dX3_init_59 rfl (lv_at hl 0 rfl) ?_
  refine lv_iconst (v := (-1 : Int32)) hx hb dX3_init_60 (by decide) ?_
  refine ti_put (C := RX3) (T := TX3) (N := 13) X Y tyX3 tyX3_ok nmX3 iX3_init_X3 0 8 rfl rfl (by decide) ⟨rfl, rfl, rfl, rfl⟩ kX3_init_23 (Nat.le_of_ble_eq_true rfl) dX3_init_61 (fun H locs Y => ?_)
  have Y : ti_Y D (ti_A h0 s.heap.size) [(h0, .inr (3, [.ref a1, .ref a2, .ref a3, .int 0, .int 0, .int 0, .int 0, .int 0, .int (-1), .null, .null, .int 0, .int 0])), (a1, .inr (0, [.ref (u1 0), .ref (u1 1), .ref (u1 2), .ref (u1 3), .ref (u1 4)])), ((u1 0), .inl (cA 0, 1280, .inl (fun _ => 0))), ((u1 1), .inl (cA 1, 1280, .inl (fun _ => 0))), ((u1 2), .inl (cA 0, 40, .inl (fun _ => 0))), ((u1 3), .inl (cA 0, 40, .inl (fun _ => 0))), ((u1 4), .inl (cA 0, 40, .inl (fun _ => 0))), (a2, .inr (1, [.ref (u2 0), .ref (u2 1), .int 0, .int 0])), ((u2 0), .inl (cA 0, 40, .inl (fun _ => 0))), ((u2 1), .inl (cA 0, 40, .inl (fun _ => 0))), (a3, .inl (cA 0, 16, .inl (fun _ => 0)))] s H locs := Y
  refine lv_aload_n hx hb dX3_init_64 rfl (lv_at hl 0 rfl) ?_
  refine lv_bipush (v := (32 : Int32)) hx hb dX3_init_65 (by decide) ?_
  refine ti_newi (N := 32) X hA Y kX3_init_16 (by decide) (by decide) (Nat.le_of_ble_eq_true rfl) (Nat.le_of_ble_eq_true rfl) (Nat.le_of_ble_eq_true rfl) dX3_init_67 (fun a4 H Y => ?_)
  have Y : ti_Y D (ti_A h0 s.heap.size) [(h0, .inr (3, [.ref a1, .ref a2, .ref a3, .int 0, .int 0, .int 0, .int 0, .int 0, .int (-1), .null, .null, .int 0, .int 0])), (a1, .inr (0, [.ref (u1 0), .ref (u1 1), .ref (u1 2), .ref (u1 3), .ref (u1 4)])), ((u1 0), .inl (cA 0, 1280, .inl (fun _ => 0))), ((u1 1), .inl (cA 1, 1280, .inl (fun _ => 0))), ((u1 2), .inl (cA 0, 40, .inl (fun _ => 0))), ((u1 3), .inl (cA 0, 40, .inl (fun _ => 0))), ((u1 4), .inl (cA 0, 40, .inl (fun _ => 0))), (a2, .inr (1, [.ref (u2 0), .ref (u2 1), .int 0, .int 0])), ((u2 0), .inl (cA 0, 40, .inl (fun _ => 0))), ((u2 1), .inl (cA 0, 40, .inl (fun _ => 0))), (a3, .inl (cA 0, 16, .inl (fun _ => 0))), (a4, .inl (cA 0, 32, .inl (fun _ => 0)))] s H locs := Y
  refine ti_putF (ty := (.array .int)) (C := RX3) (T := TX3) (N := 13) X hin Y tyX3 tyX3_ok nmX3 iX3_init_X3 0 9 rfl rfl (by decide) ⟨rfl, rfl, rfl, rfl⟩ kX3_init_24 (by decide +kernel) rfl rfl (Nat.le_of_ble_eq_true rfl) dX3_init_69 (fun H locs Y => ?_)
  have Y : ti_Y D (ti_A h0 s.heap.size) [(h0, .inr (3, [.ref a1, .ref a2, .ref a3, .int 0, .int 0, .int 0, .int 0, .int 0, .int (-1), .ref a4, .null, .int 0, .int 0])), (a1, .inr (0, [.ref (u1 0), .ref (u1 1), .ref (u1 2), .ref (u1 3), .ref (u1 4)])), ((u1 0), .inl (cA 0, 1280, .inl (fun _ => 0))), ((u1 1), .inl (cA 1, 1280, .inl (fun _ => 0))), ((u1 2), .inl (cA 0, 40, .inl (fun _ => 0))), ((u1 3), .inl (cA 0, 40, .inl (fun _ => 0))), ((u1 4), .inl (cA 0, 40, .inl (fun _ => 0))), (a2, .inr (1, [.ref (u2 0), .ref (u2 1), .int 0, .int 0])), ((u2 0), .inl (cA 0, 40, .inl (fun _ => 0))), ((u2 1), .inl (cA 0, 40, .inl (fun _ => 0))), (a3, .inl (cA 0, 16, .inl (fun _ => 0))), (a4, .inl (cA 0, 32, .inl (fun _ => 0)))] s H locs := Y
  refine lv_aload_n hx hb dX3_init_72 rfl (lv_at hl 0 rfl) ?_
  refine lv_bipush (v := (16 : Int32)) hx hb dX3_init_73 (by decide) ?_
  refine ti_newi (N := 16) X hA Y kX3_init_16 (by decide) (by decide) (Nat.le_of_ble_eq_true rfl) (Nat.le_of_ble_eq_true rfl) (Nat.le_of_ble_eq_true rfl) dX3_init_75 (fun a5 H Y => ?_)
  have Y : ti_Y D (ti_A h0 s.heap.size) [(h0, .inr (3, [.ref a1, .ref a2, .ref a3, .int 0, .int 0, .int 0, .int 0, .int 0, .int (-1), .ref a4, .null, .int 0, .int 0])), (a1, .inr (0, [.ref (u1 0), .ref (u1 1), .ref (u1 2), .ref (u1 3), .ref (u1 4)])), ((u1 0), .inl (cA 0, 1280, .inl (fun _ => 0))), ((u1 1), .inl (cA 1, 1280, .inl (fun _ => 0))), ((u1 2), .inl (cA 0, 40, .inl (fun _ => 0))), ((u1 3), .inl (cA 0, 40, .inl (fun _ => 0))), ((u1 4), .inl (cA 0, 40, .inl (fun _ => 0))), (a2, .inr (1, [.ref (u2 0), .ref (u2 1), .int 0, .int 0])), ((u2 0), .inl (cA 0, 40, .inl (fun _ => 0))), ((u2 1), .inl (cA 0, 40, .inl (fun _ => 0))), (a3, .inl (cA 0, 16, .inl (fun _ => 0))), (a4, .inl (cA 0, 32, .inl (fun _ => 0))), (a5, .inl (cA 0, 16, .inl (fun _ => 0)))] s H locs := Y
  refine ti_putF (ty := (.array .int)) (C := RX3) (T := TX3) (N := 13) X hin Y tyX3 tyX3_ok nmX3 iX3_init_X3 0 10 rfl rfl (by decide) ⟨rfl, rfl, rfl, rfl⟩ kX3_init_25 (by decide +kernel) rfl rfl (Nat.le_of_ble_eq_true rfl) dX3_init_77 (fun H locs Y => ?_)
  have Y : ti_Y D (ti_A h0 s.heap.size) [(h0, .inr (3, [.ref a1, .ref a2, .ref a3, .int 0, .int 0, .int 0, .int 0, .int 0, .int (-1), .ref a4, .ref a5, .int 0, .int 0])), (a1, .inr (0, [.ref (u1 0), .ref (u1 1), .ref (u1 2), .ref (u1 3), .ref (u1 4)])), ((u1 0), .inl (cA 0, 1280, .inl (fun _ => 0))), ((u1 1), .inl (cA 1, 1280, .inl (fun _ => 0))), ((u1 2), .inl (cA 0, 40, .inl (fun _ => 0))), ((u1 3), .inl (cA 0, 40, .inl (fun _ => 0))), ((u1 4), .inl (cA 0, 40, .inl (fun _ => 0))), (a2, .inr (1, [.ref (u2 0), .ref (u2 1), .int 0, .int 0])), ((u2 0), .inl (cA 0, 40, .inl (fun _ => 0))), ((u2 1), .inl (cA 0, 40, .inl (fun _ => 0))), (a3, .inl (cA 0, 16, .inl (fun _ => 0))), (a4, .inl (cA 0, 32, .inl (fun _ => 0))), (a5, .inl (cA 0, 16, .inl (fun _ => 0)))] s H locs := Y
  refine lv_aload_n hx hb dX3_init_80 rfl (lv_at hl 0 rfl) ?_
  refine lv_iconst (v := (0 : Int32)) hx hb dX3_init_81 (by decide) ?_
  refine ti_put (C := RX3) (T := TX3) (N := 13) X Y tyX3 tyX3_ok nmX3 iX3_init_X3 0 11 rfl rfl (by decide) ⟨rfl, rfl, rfl, rfl⟩ kX3_init_26 (Nat.le_of_ble_eq_true rfl) dX3_init_82 (fun H locs Y => ?_)
  have Y : ti_Y D (ti_A h0 s.heap.size) [(h0, .inr (3, [.ref a1, .ref a2, .ref a3, .int 0, .int 0, .int 0, .int 0, .int 0, .int (-1), .ref a4, .ref a5, .int 0, .int 0])), (a1, .inr (0, [.ref (u1 0), .ref (u1 1), .ref (u1 2), .ref (u1 3), .ref (u1 4)])), ((u1 0), .inl (cA 0, 1280, .inl (fun _ => 0))), ((u1 1), .inl (cA 1, 1280, .inl (fun _ => 0))), ((u1 2), .inl (cA 0, 40, .inl (fun _ => 0))), ((u1 3), .inl (cA 0, 40, .inl (fun _ => 0))), ((u1 4), .inl (cA 0, 40, .inl (fun _ => 0))), (a2, .inr (1, [.ref (u2 0), .ref (u2 1), .int 0, .int 0])), ((u2 0), .inl (cA 0, 40, .inl (fun _ => 0))), ((u2 1), .inl (cA 0, 40, .inl (fun _ => 0))), (a3, .inl (cA 0, 16, .inl (fun _ => 0))), (a4, .inl (cA 0, 32, .inl (fun _ => 0))), (a5, .inl (cA 0, 16, .inl (fun _ => 0)))] s H locs := Y
  refine lv_aload_n hx hb dX3_init_85 rfl (lv_at hl 0 rfl) ?_
  refine lv_iconst (v := (0 : Int32)) hx hb dX3_init_86 (by decide) ?_
  refine ti_put (C := RX3) (T := TX3) (N := 13) X Y tyX3 tyX3_ok nmX3 iX3_init_X3 0 12 rfl rfl (by decide) ⟨rfl, rfl, rfl, rfl⟩ kX3_init_27 (Nat.le_of_ble_eq_true rfl) dX3_init_87 (fun H locs Y => ?_)
  have Y : ti_Y D (ti_A h0 s.heap.size) [(h0, .inr (3, [.ref a1, .ref a2, .ref a3, .int 0, .int 0, .int 0, .int 0, .int 0, .int (-1), .ref a4, .ref a5, .int 0, .int 0])), (a1, .inr (0, [.ref (u1 0), .ref (u1 1), .ref (u1 2), .ref (u1 3), .ref (u1 4)])), ((u1 0), .inl (cA 0, 1280, .inl (fun _ => 0))), ((u1 1), .inl (cA 1, 1280, .inl (fun _ => 0))), ((u1 2), .inl (cA 0, 40, .inl (fun _ => 0))), ((u1 3), .inl (cA 0, 40, .inl (fun _ => 0))), ((u1 4), .inl (cA 0, 40, .inl (fun _ => 0))), (a2, .inr (1, [.ref (u2 0), .ref (u2 1), .int 0, .int 0])), ((u2 0), .inl (cA 0, 40, .inl (fun _ => 0))), ((u2 1), .inl (cA 0, 40, .inl (fun _ => 0))), (a3, .inl (cA 0, 16, .inl (fun _ => 0))), (a4, .inl (cA 0, 32, .inl (fun _ => 0))), (a5, .inl (cA 0, 16, .inl (fun _ => 0)))] s H locs := Y
  refine lv_aload_n hx hb dX3_init_90 rfl (lv_at hl 0 rfl) ?_
  refine ti_get (v := .ref a3) (C := RX3) (T := TX3) (N := 13) X Y iX3_init_X3 0 2 rfl rfl (by decide) ⟨rfl, rfl, rfl⟩ kX3_init_17 rfl dX3_init_91 ?_
  refine lv_iconst (v := (-1 : Int32)) hx hb dX3_init_94 (by decide) ?_
  refine ti_fill (n := 16) (v := (-1 : Int32)) X hA Y 10 rfl (by decide) (va_cwS 2 X.1.2.2.2.2 gX3_init_J7_fill_53178 rfl rfl rfl (by decide +kernel) ⟨Nat.le_of_ble_eq_true rfl, Nat.le_of_ble_eq_true rfl⟩) hl.1 dX3_init_95 ⟨Nat.le_of_ble_eq_true rfl, Nat.le_of_ble_eq_true rfl⟩ (fun H locs Y => ?_)
  have Y : ti_Y D (ti_A h0 s.heap.size) [(h0, .inr (3, [.ref a1, .ref a2, .ref a3, .int 0, .int 0, .int 0, .int 0, .int 0, .int (-1), .ref a4, .ref a5, .int 0, .int 0])), (a1, .inr (0, [.ref (u1 0), .ref (u1 1), .ref (u1 2), .ref (u1 3), .ref (u1 4)])), ((u1 0), .inl (cA 0, 1280, .inl (fun _ => 0))), ((u1 1), .inl (cA 1, 1280, .inl (fun _ => 0))), ((u1 2), .inl (cA 0, 40, .inl (fun _ => 0))), ((u1 3), .inl (cA 0, 40, .inl (fun _ => 0))), ((u1 4), .inl (cA 0, 40, .inl (fun _ => 0))), (a2, .inr (1, [.ref (u2 0), .ref (u2 1), .int 0, .int 0])), ((u2 0), .inl (cA 0, 40, .inl (fun _ => 0))), ((u2 1), .inl (cA 0, 40, .inl (fun _ => 0))), (a3, .inl (cA 0, 16, .inl (fun j => if j < 16 then (-1 : Int32) else 0))), (a4, .inl (cA 0, 32, .inl (fun _ => 0))), (a5, .inl (cA 0, 16, .inl (fun _ => 0)))] s H locs := Y
  refine W.widen (k := 12) (n := 2833) (Nat.le_of_ble_eq_true rfl) (Nat.le_of_ble_eq_true rfl) ?_
  exact ti_vret (w := tiw_X3 cA h0) X (fun k => [a1, (u1 0), (u1 1), (u1 2), (u1 3), (u1 4), a2, (u2 0), (u2 1), a3, a4, a5].getD k 0) Y dX3_init_98
abbrev rX4_init : Room := { frames := 3, cells := 16, slots := 4770, locals := 72 }
theorem kX4_init_0 : Cond.methodLink RX4 3 objectInit ∈ wsX4_init := ty_m 1 (by decide +kernel)
theorem kX4_init_1 : Cond.instanceMethod objectInit ∈ wsX4_init := ty_m 2 (by decide +kernel)
theorem kX4_init_2 : Cond.code objectInit ⟨#[0xb1]⟩ 1 none ∈ wsX4_init := ty_m 3 (by decide +kernel)
theorem iX4_init_X3 : ∀ w ∈ wsX30, w ∈ wsX4_init := ty_inp _ [65, 66, 67, 68, 69, 70, 71, 72, 73, 74, 75, 76, 77] (by decide +kernel)
theorem kX4_init_4 : Cond.classLink RX4 9 RX3 ∈ wsX4_init := ty_m 4 (by decide +kernel)
theorem kX4_init_5 : Cond.instantiable RX3 13 ∈ wsX4_init := ty_m 5 (by decide +kernel)
theorem kX4_init_6 : Cond.initialized RX3 ∈ wsX4_init := ty_m 6 (by decide +kernel)
theorem kX4_init_7 : Cond.instanceMethod yX3_init ∈ wsX4_init := ty_m 15 (by decide +kernel)
theorem kX4_init_8 : Cond.methodLink RX4 11 yX3_init ∈ wsX4_init := ty_m 14 (by decide +kernel)
theorem kX4_init_9 : Cond.fieldLink RX4 12 "TrainYard" "yard" "LTrainYard$Yard;" ∈ wsX4_init := ty_m 7 (by decide +kernel)
theorem iX4_init_X4 : ∀ w ∈ wsX40, w ∈ wsX4_init := ty_inp _ [78, 79, 80, 81] (by decide +kernel)
theorem iX4_init_X2 : ∀ w ∈ wsX20, w ∈ wsX4_init := ty_inp _ [82, 83, 84, 85] (by decide +kernel)
theorem kX4_init_12 : Cond.classLink RX4 16 RX2 ∈ wsX4_init := ty_m 8 (by decide +kernel)
theorem kX4_init_13 : Cond.instantiable RX2 4 ∈ wsX4_init := ty_m 9 (by decide +kernel)
theorem kX4_init_14 : Cond.initialized RX2 ∈ wsX4_init := ty_m 10 (by decide +kernel)
theorem kX4_init_15 : Cond.instanceMethod yX2_init ∈ wsX4_init := ty_m 58 (by decide +kernel)
theorem kX4_init_16 : Cond.fieldLink RX4 19 "TrainYard" "search" "LTrainYard$Search;" ∈ wsX4_init := ty_m 11 (by decide +kernel)
theorem kX4_init_17 : Cond.fieldLink RX4 23 "TrainYard" "fullTrain" "I" ∈ wsX4_init := ty_m 12 (by decide +kernel)
theorem kX4_init_18 : Cond.fieldLink RX4 27 "TrainYard" "labels" "I" ∈ wsX4_init := ty_m 13 (by decide +kernel)
/-- the world behind "TrainYard"() -/
def tiw_X4 (cA : Nat → ClassId) (h0 : Nat) (u : Nat → Nat) : va_W := [(h0, .inr (4, [.ref (u 0), .ref (u 13), .int 4, .int 0])), ((u 0), .inr (3, [.ref (u 1), .ref (u 7), .ref (u 10), .int 0, .int 0, .int 0, .int 0, .int 0, .int (-1), .ref (u 11), .ref (u 12), .int 0, .int 0])), ((u 1), .inr (0, [.ref (u 2), .ref (u 3), .ref (u 4), .ref (u 5), .ref (u 6)])), ((u 2), .inl (cA 0, 1280, .inl (fun _ => 0))), ((u 3), .inl (cA 1, 1280, .inl (fun _ => 0))), ((u 4), .inl (cA 0, 40, .inl (fun _ => 0))), ((u 5), .inl (cA 0, 40, .inl (fun _ => 0))), ((u 6), .inl (cA 0, 40, .inl (fun _ => 0))), ((u 7), .inr (1, [.ref (u 8), .ref (u 9), .int 0, .int 0])), ((u 8), .inl (cA 0, 40, .inl (fun _ => 0))), ((u 9), .inl (cA 0, 40, .inl (fun _ => 0))), ((u 10), .inl (cA 0, 16, .inl (fun j => if j < 16 then (-1 : Int32) else 0))), ((u 11), .inl (cA 0, 32, .inl (fun _ => 0))), ((u 12), .inl (cA 0, 16, .inl (fun _ => 0))), ((u 13), .inr (2, [.ref (u 14), .ref (u 15), .int 0, .int 0])), ((u 14), .inl (cA 0, 1280, .inl (fun _ => 0))), ((u 15), .inl (cA 0, 640, .inl (fun _ => 0)))]
set_option maxHeartbeats 4000000 in
set_option maxRecDepth 100000 in
theorem tc_X4 (l : Launch) (D : va_G) (cA : Nat → ClassId) (h0 : Nat) : ∀ sz, Met l yX4_init wsX4_init rX4_init (ti_Pc D cA [(h0, .inr (4, [.null, .null, .int 0, .int 0]))] sz h0) (ti_Q D cA (tiw_X4 cA h0) sz h0) 16 4770 (ti_A h0 sz) := by
  refine ti_ofM (maxL := 1) (cc := cX4_init) (own := RX4) (by decide +kernel) rfl rfl (Nat.le_of_ble_eq_true rfl) rfl ?_
  intro p e s m args below meth c ls X hin hA hl locs Y
  have hx := X.1.1
  have hb := X.1.2.1
  refine lv_aload_n hx hb dX4_init_0 rfl (lv_at hl 0 rfl) ?_
  refine ti_obj X kX4_init_0 kX4_init_1 kX4_init_2 hl.1 dX4_init_1 (Nat.le_of_ble_eq_true rfl) (Nat.le_of_ble_eq_true rfl) ?_
  refine lv_aload_n hx hb dX4_init_4 rfl (lv_at hl 0 rfl) ?_
  refine ti_new (ci := 3) (fs := [.null, .null, .null, .int 0, .int 0, .int 0, .int 0, .int 0, .int 0, .null, .null, .int 0, .int 0]) (C := RX3) (T := TX3) (N := 13) X hA Y tyX3 tyX3_ok iX4_init_X3 kX4_init_4 kX4_init_5 kX4_init_6 rfl (fun j hj => by rcases (show j = 0 ∨ j = 1 ∨ j = 2 ∨ j = 3 ∨ j = 4 ∨ j = 5 ∨ j = 6 ∨ j = 7 ∨ j = 8 ∨ j = 9 ∨ j = 10 ∨ j = 11 ∨ j = 12 by omega) with rfl | rfl | rfl | rfl | rfl | rfl | rfl | rfl | rfl | rfl | rfl | rfl | rfl <;> rfl) (Nat.le_of_ble_eq_true rfl) (Nat.le_of_ble_eq_true rfl) dX4_init_5 (fun a1 H Y => ?_)
  have Y : ti_Y D (ti_A h0 s.heap.size) [(h0, .inr (4, [.null, .null, .int 0, .int 0])), (a1, .inr (3, [.null, .null, .null, .int 0, .int 0, .int 0, .int 0, .int 0, .int 0, .null, .null, .int 0, .int 0]))] s H locs := Y
  refine lv_dup hx hb dX4_init_8 rfl ?_
  refine ti_call (ws0 := [(h0, .inr (4, [.null, .null, .int 0, .int 0]))]) (rest := [.ref a1, .ref h0]) X hA Y (tc_X3 l D cA a1) (fun hM hp => va_runI (As := []) (rest := [.ref a1, .ref h0]) X.1 hM (cwI 0 X.1.2.2.2.2 gX4_init_X3_init rfl rfl rfl (X.1.2.2.2.2 _ kX4_init_6) (X.1.2.2.2.2 _ kX4_init_8) (X.1.2.2.2.2 _ kX4_init_7) rfl (by decide +kernel) ⟨Nat.le_of_ble_eq_true rfl, Nat.le_of_ble_eq_true rfl⟩) hp rfl rfl hl.1 rfl (lv_room (Nat.le_of_ble_eq_true rfl)) dX4_init_9 ⟨Nat.le_of_ble_eq_true rfl, Nat.le_of_ble_eq_true rfl⟩) (fun u1 H locs Y => ?_)
  have Y : ti_Y D (ti_A h0 s.heap.size) [(h0, .inr (4, [.null, .null, .int 0, .int 0])), (a1, .inr (3, [.ref (u1 0), .ref (u1 6), .ref (u1 9), .int 0, .int 0, .int 0, .int 0, .int 0, .int (-1), .ref (u1 10), .ref (u1 11), .int 0, .int 0])), ((u1 0), .inr (0, [.ref (u1 1), .ref (u1 2), .ref (u1 3), .ref (u1 4), .ref (u1 5)])), ((u1 1), .inl (cA 0, 1280, .inl (fun _ => 0))), ((u1 2), .inl (cA 1, 1280, .inl (fun _ => 0))), ((u1 3), .inl (cA 0, 40, .inl (fun _ => 0))), ((u1 4), .inl (cA 0, 40, .inl (fun _ => 0))), ((u1 5), .inl (cA 0, 40, .inl (fun _ => 0))), ((u1 6), .inr (1, [.ref (u1 7), .ref (u1 8), .int 0, .int 0])), ((u1 7), .inl (cA 0, 40, .inl (fun _ => 0))), ((u1 8), .inl (cA 0, 40, .inl (fun _ => 0))), ((u1 9), .inl (cA 0, 16, .inl (fun j => if j < 16 then (-1 : Int32) else 0))), ((u1 10), .inl (cA 0, 32, .inl (fun _ => 0))), ((u1 11), .inl (cA 0, 16, .inl (fun _ => 0)))] s H locs := Y
  refine ti_putF (ty := (.object "TrainYard$Yard")) (C := RX4) (T := TX4) (N := 4) X hin Y tyX4 tyX4_ok nmX4 iX4_init_X4 0 0 rfl rfl (by decide) ⟨rfl, rfl, rfl, rfl⟩ kX4_init_9 (by decide +kernel) rfl rfl (Nat.le_of_ble_eq_true rfl) dX4_init_12 (fun H locs Y => ?_)
  have Y : ti_Y D (ti_A h0 s.heap.size) [(h0, .inr (4, [.ref a1, .null, .int 0, .int 0])), (a1, .inr (3, [.ref (u1 0), .ref (u1 6), .ref (u1 9), .int 0, .int 0, .int 0, .int 0, .int 0, .int (-1), .ref (u1 10), .ref (u1 11), .int 0, .int 0])), ((u1 0), .inr (0, [.ref (u1 1), .ref (u1 2), .ref (u1 3), .ref (u1 4), .ref (u1 5)])), ((u1 1), .inl (cA 0, 1280, .inl (fun _ => 0))), ((u1 2), .inl (cA 1, 1280, .inl (fun _ => 0))), ((u1 3), .inl (cA 0, 40, .inl (fun _ => 0))), ((u1 4), .inl (cA 0, 40, .inl (fun _ => 0))), ((u1 5), .inl (cA 0, 40, .inl (fun _ => 0))), ((u1 6), .inr (1, [.ref (u1 7), .ref (u1 8), .int 0, .int 0])), ((u1 7), .inl (cA 0, 40, .inl (fun _ => 0))), ((u1 8), .inl (cA 0, 40, .inl (fun _ => 0))), ((u1 9), .inl (cA 0, 16, .inl (fun j => if j < 16 then (-1 : Int32) else 0))), ((u1 10), .inl (cA 0, 32, .inl (fun _ => 0))), ((u1 11), .inl (cA 0, 16, .inl (fun _ => 0)))] s H locs := Y
  refine lv_aload_n hx hb dX4_init_15 rfl (lv_at hl 0 rfl) ?_
  refine ti_new (ci := 2) (fs := [.null, .null, .int 0, .int 0]) (C := RX2) (T := TX2) (N := 4) X hA Y tyX2 tyX2_ok iX4_init_X2 kX4_init_12 kX4_init_13 kX4_init_14 rfl (fun j hj => by rcases (show j = 0 ∨ j = 1 ∨ j = 2 ∨ j = 3 by omega) with rfl | rfl | rfl | rfl <;> rfl) (Nat.le_of_ble_eq_true rfl) (Nat.le_of_ble_eq_true rfl) dX4_init_16 (fun a2 H Y => ?_)
  have Y : ti_Y D (ti_A h0 s.heap.size) [(h0, .inr (4, [.ref a1, .null, .int 0, .int 0])), (a1, .inr (3, [.ref (u1 0), .ref (u1 6), .ref (u1 9), .int 0, .int 0, .int 0, .int 0, .int 0, .int (-1), .ref (u1 10), .ref (u1 11), .int 0, .int 0])), ((u1 0), .inr (0, [.ref (u1 1), .ref (u1 2), .ref (u1 3), .ref (u1 4), .ref (u1 5)])), ((u1 1), .inl (cA 0, 1280, .inl (fun _ => 0))), ((u1 2), .inl (cA 1, 1280, .inl (fun _ => 0))), ((u1 3), .inl (cA 0, 40, .inl (fun _ => 0))), ((u1 4), .inl (cA 0, 40, .inl (fun _ => 0))), ((u1 5), .inl (cA 0, 40, .inl (fun _ => 0))), ((u1 6), .inr (1, [.ref (u1 7), .ref (u1 8), .int 0, .int 0])), ((u1 7), .inl (cA 0, 40, .inl (fun _ => 0))), ((u1 8), .inl (cA 0, 40, .inl (fun _ => 0))), ((u1 9), .inl (cA 0, 16, .inl (fun j => if j < 16 then (-1 : Int32) else 0))), ((u1 10), .inl (cA 0, 32, .inl (fun _ => 0))), ((u1 11), .inl (cA 0, 16, .inl (fun _ => 0))), (a2, .inr (2, [.null, .null, .int 0, .int 0]))] s H locs := Y
  refine lv_dup hx hb dX4_init_19 rfl ?_
  refine ti_call (ws0 := [(h0, .inr (4, [.ref a1, .null, .int 0, .int 0])), (a1, .inr (3, [.ref (u1 0), .ref (u1 6), .ref (u1 9), .int 0, .int 0, .int 0, .int 0, .int 0, .int (-1), .ref (u1 10), .ref (u1 11), .int 0, .int 0])), ((u1 0), .inr (0, [.ref (u1 1), .ref (u1 2), .ref (u1 3), .ref (u1 4), .ref (u1 5)])), ((u1 1), .inl (cA 0, 1280, .inl (fun _ => 0))), ((u1 2), .inl (cA 1, 1280, .inl (fun _ => 0))), ((u1 3), .inl (cA 0, 40, .inl (fun _ => 0))), ((u1 4), .inl (cA 0, 40, .inl (fun _ => 0))), ((u1 5), .inl (cA 0, 40, .inl (fun _ => 0))), ((u1 6), .inr (1, [.ref (u1 7), .ref (u1 8), .int 0, .int 0])), ((u1 7), .inl (cA 0, 40, .inl (fun _ => 0))), ((u1 8), .inl (cA 0, 40, .inl (fun _ => 0))), ((u1 9), .inl (cA 0, 16, .inl (fun j => if j < 16 then (-1 : Int32) else 0))), ((u1 10), .inl (cA 0, 32, .inl (fun _ => 0))), ((u1 11), .inl (cA 0, 16, .inl (fun _ => 0)))]) (rest := [.ref a2, .ref h0]) X hA Y (tc_X2 l D cA a2) (fun hM hp => va_runIN (As := []) (rest := [.ref a2, .ref h0]) X.1 hM ⟨va_cnB 0 X.1.2.2.2.2 gX4_init_X2_init_n18 rfl rfl rfl (X.2.2.2.2 _ (ty_m 13 rfl)) (X.1.2.2.2.2 _ kX4_init_14) (by decide +kernel) ⟨Nat.le_of_ble_eq_true rfl, Nat.le_of_ble_eq_true rfl⟩, rfl, X.1.2.2.2.2 _ kX4_init_15⟩ hp rfl rfl hl.1 rfl (lv_room (Nat.le_of_ble_eq_true rfl)) dX4_init_20 ⟨Nat.le_of_ble_eq_true rfl, Nat.le_of_ble_eq_true rfl⟩) (fun u2 H locs Y => ?_)
  have Y : ti_Y D (ti_A h0 s.heap.size) [(h0, .inr (4, [.ref a1, .null, .int 0, .int 0])), (a1, .inr (3, [.ref (u1 0), .ref (u1 6), .ref (u1 9), .int 0, .int 0, .int 0, .int 0, .int 0, .int (-1), .ref (u1 10), .ref (u1 11), .int 0, .int 0])), ((u1 0), .inr (0, [.ref (u1 1), .ref (u1 2), .ref (u1 3), .ref (u1 4), .ref (u1 5)])), ((u1 1), .inl (cA 0, 1280, .inl (fun _ => 0))), ((u1 2), .inl (cA 1, 1280, .inl (fun _ => 0))), ((u1 3), .inl (cA 0, 40, .inl (fun _ => 0))), ((u1 4), .inl (cA 0, 40, .inl (fun _ => 0))), ((u1 5), .inl (cA 0, 40, .inl (fun _ => 0))), ((u1 6), .inr (1, [.ref (u1 7), .ref (u1 8), .int 0, .int 0])), ((u1 7), .inl (cA 0, 40, .inl (fun _ => 0))), ((u1 8), .inl (cA 0, 40, .inl (fun _ => 0))), ((u1 9), .inl (cA 0, 16, .inl (fun j => if j < 16 then (-1 : Int32) else 0))), ((u1 10), .inl (cA 0, 32, .inl (fun _ => 0))), ((u1 11), .inl (cA 0, 16, .inl (fun _ => 0))), (a2, .inr (2, [.ref (u2 0), .ref (u2 1), .int 0, .int 0])), ((u2 0), .inl (cA 0, 1280, .inl (fun _ => 0))), ((u2 1), .inl (cA 0, 640, .inl (fun _ => 0)))] s H locs := Y
  refine ti_putF (ty := (.object "TrainYard$Search")) (C := RX4) (T := TX4) (N := 4) X hin Y tyX4 tyX4_ok nmX4 iX4_init_X4 0 1 rfl rfl (by decide) ⟨rfl, rfl, rfl, rfl⟩ kX4_init_16 (by decide +kernel) rfl rfl (Nat.le_of_ble_eq_true rfl) dX4_init_23 (fun H locs Y => ?_)
  have Y : ti_Y D (ti_A h0 s.heap.size) [(h0, .inr (4, [.ref a1, .ref a2, .int 0, .int 0])), (a1, .inr (3, [.ref (u1 0), .ref (u1 6), .ref (u1 9), .int 0, .int 0, .int 0, .int 0, .int 0, .int (-1), .ref (u1 10), .ref (u1 11), .int 0, .int 0])), ((u1 0), .inr (0, [.ref (u1 1), .ref (u1 2), .ref (u1 3), .ref (u1 4), .ref (u1 5)])), ((u1 1), .inl (cA 0, 1280, .inl (fun _ => 0))), ((u1 2), .inl (cA 1, 1280, .inl (fun _ => 0))), ((u1 3), .inl (cA 0, 40, .inl (fun _ => 0))), ((u1 4), .inl (cA 0, 40, .inl (fun _ => 0))), ((u1 5), .inl (cA 0, 40, .inl (fun _ => 0))), ((u1 6), .inr (1, [.ref (u1 7), .ref (u1 8), .int 0, .int 0])), ((u1 7), .inl (cA 0, 40, .inl (fun _ => 0))), ((u1 8), .inl (cA 0, 40, .inl (fun _ => 0))), ((u1 9), .inl (cA 0, 16, .inl (fun j => if j < 16 then (-1 : Int32) else 0))), ((u1 10), .inl (cA 0, 32, .inl (fun _ => 0))), ((u1 11), .inl (cA 0, 16, .inl (fun _ => 0))), (a2, .inr (2, [.ref (u2 0), .ref (u2 1), .int 0, .int 0])), ((u2 0), .inl (cA 0, 1280, .inl (fun _ => 0))), ((u2 1), .inl (cA 0, 640, .inl (fun _ => 0)))] s H locs := Y
  refine lv_aload_n hx hb dX4_init_26 rfl (lv_at hl 0 rfl) ?_
  refine lv_iconst (v := (4 : Int32)) hx hb dX4_init_27 (by decide) ?_
  refine ti_put (C := RX4) (T := TX4) (N := 4) X Y tyX4 tyX4_ok nmX4 iX4_init_X4 0 2 rfl rfl (by decide) ⟨rfl, rfl, rfl, rfl⟩ kX4_init_17 (Nat.le_of_ble_eq_true rfl) dX4_init_28 (fun H locs Y => ?_)
  have Y : ti_Y D (ti_A h0 s.heap.size) [(h0, .inr (4, [.ref a1, .ref a2, .int 4, .int 0])), (a1, .inr (3, [.ref (u1 0), .ref (u1 6), .ref (u1 9), .int 0, .int 0, .int 0, .int 0, .int 0, .int (-1), .ref (u1 10), .ref (u1 11), .int 0, .int 0])), ((u1 0), .inr (0, [.ref (u1 1), .ref (u1 2), .ref (u1 3), .ref (u1 4), .ref (u1 5)])), ((u1 1), .inl (cA 0, 1280, .inl (fun _ => 0))), ((u1 2), .inl (cA 1, 1280, .inl (fun _ => 0))), ((u1 3), .inl (cA 0, 40, .inl (fun _ => 0))), ((u1 4), .inl (cA 0, 40, .inl (fun _ => 0))), ((u1 5), .inl (cA 0, 40, .inl (fun _ => 0))), ((u1 6), .inr (1, [.ref (u1 7), .ref (u1 8), .int 0, .int 0])), ((u1 7), .inl (cA 0, 40, .inl (fun _ => 0))), ((u1 8), .inl (cA 0, 40, .inl (fun _ => 0))), ((u1 9), .inl (cA 0, 16, .inl (fun j => if j < 16 then (-1 : Int32) else 0))), ((u1 10), .inl (cA 0, 32, .inl (fun _ => 0))), ((u1 11), .inl (cA 0, 16, .inl (fun _ => 0))), (a2, .inr (2, [.ref (u2 0), .ref (u2 1), .int 0, .int 0])), ((u2 0), .inl (cA 0, 1280, .inl (fun _ => 0))), ((u2 1), .inl (cA 0, 640, .inl (fun _ => 0)))] s H locs := Y
  refine lv_aload_n hx hb dX4_init_31 rfl (lv_at hl 0 rfl) ?_
  refine lv_iconst (v := (0 : Int32)) hx hb dX4_init_32 (by decide) ?_
  refine ti_put (C := RX4) (T := TX4) (N := 4) X Y tyX4 tyX4_ok nmX4 iX4_init_X4 0 3 rfl rfl (by decide) ⟨rfl, rfl, rfl, rfl⟩ kX4_init_18 (Nat.le_of_ble_eq_true rfl) dX4_init_33 (fun H locs Y => ?_)
  have Y : ti_Y D (ti_A h0 s.heap.size) [(h0, .inr (4, [.ref a1, .ref a2, .int 4, .int 0])), (a1, .inr (3, [.ref (u1 0), .ref (u1 6), .ref (u1 9), .int 0, .int 0, .int 0, .int 0, .int 0, .int (-1), .ref (u1 10), .ref (u1 11), .int 0, .int 0])), ((u1 0), .inr (0, [.ref (u1 1), .ref (u1 2), .ref (u1 3), .ref (u1 4), .ref (u1 5)])), ((u1 1), .inl (cA 0, 1280, .inl (fun _ => 0))), ((u1 2), .inl (cA 1, 1280, .inl (fun _ => 0))), ((u1 3), .inl (cA 0, 40, .inl (fun _ => 0))), ((u1 4), .inl (cA 0, 40, .inl (fun _ => 0))), ((u1 5), .inl (cA 0, 40, .inl (fun _ => 0))), ((u1 6), .inr (1, [.ref (u1 7), .ref (u1 8), .int 0, .int 0])), ((u1 7), .inl (cA 0, 40, .inl (fun _ => 0))), ((u1 8), .inl (cA 0, 40, .inl (fun _ => 0))), ((u1 9), .inl (cA 0, 16, .inl (fun j => if j < 16 then (-1 : Int32) else 0))), ((u1 10), .inl (cA 0, 32, .inl (fun _ => 0))), ((u1 11), .inl (cA 0, 16, .inl (fun _ => 0))), (a2, .inr (2, [.ref (u2 0), .ref (u2 1), .int 0, .int 0])), ((u2 0), .inl (cA 0, 1280, .inl (fun _ => 0))), ((u2 1), .inl (cA 0, 640, .inl (fun _ => 0)))] s H locs := Y
  refine W.widen (k := 16) (n := 4770) (Nat.le_of_ble_eq_true rfl) (Nat.le_of_ble_eq_true rfl) ?_
  exact ti_vret (w := tiw_X4 cA h0) X (fun k => [a1, (u1 0), (u1 1), (u1 2), (u1 3), (u1 4), (u1 5), (u1 6), (u1 7), (u1 8), (u1 9), (u1 10), (u1 11), a2, (u2 0), (u2 1)].getD k 0) Y dX4_init_36
