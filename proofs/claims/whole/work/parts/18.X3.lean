abbrev rX3_lastHasRoom : Room := { frames := 1, cells := 0, slots := 0, locals := 21 }
theorem kX3_lastHasRoom_0 : Cond.fieldLink RX3 12 "TrainYard$Yard" "freight" "LTrainYard$Freight;" ∈ wsX3_lastHasRoom := ty_m 1 (by decide +kernel)
theorem kX3_lastHasRoom_1 : Cond.fieldLink RX3 21 "TrainYard$Yard" "row" "LTrainYard$Row;" ∈ wsX3_lastHasRoom := ty_m 2 (by decide +kernel)
theorem iX3_lastHasRoom_X1 : ∀ w ∈ wsX10, w ∈ wsX3_lastHasRoom := ty_inp _ [29, 30, 31, 32] (by decide +kernel)
theorem iX3_lastHasRoom_X3 : ∀ w ∈ wsX30, w ∈ wsX3_lastHasRoom := ty_inp _ [16, 17, 18, 19, 20, 21, 22, 23, 24, 25, 26, 27, 28] (by decide +kernel)
def eX3_lastHasRoom (S : ty_S) (x1 : Int32) (K : ty_S → Int32 → Prop) : Prop :=
  (eX1_carAt S ((S 13 0) - (1 : Int32)) (fun S1 r1 => (eX0_room S1 r1 (fun S2 r2 => (if r2 < x1 then K S2 (0 : Int32) else K S2 (1 : Int32))))))
set_option maxHeartbeats 4000000 in
set_option maxRecDepth 100000 in
theorem cX3_lastHasRoom_C (l : Launch) (D : va_G) (cA : Nat → ClassId) (q : Nat → Nat) (S : ty_S) (x1 : Int32) (K : ty_S → Int32 → Prop) (h : eX3_lastHasRoom S x1 K) : ∀ sz, Met l yX3_lastHasRoom wsX3_lastHasRoom rX3_lastHasRoom (ty_Pc D cA q ty_LY S sz [.ref (q 1), .int x1]) (ty_Qi D cA q ty_LY sz K) 0 0 (ty_A q ty_LY.length sz) := by
  refine ty_ofM (ret := (some .boolean)) (maxL := 2) (cc := cX3_lastHasRoom) (own := RX3) (Qc := fun sz => ty_Qi D cA q ty_LY sz K) (by decide +kernel) rfl (Nat.le_of_ble_eq_true rfl) rfl ?_
  intro p e s m args below meth c ls X hl Y
  have hx := X.1.1
  have hb := X.1.2.1
  have hl : lv_has ls 2 [(0, .ref (q 1)), (1, .int x1)] := hl
  unfold eX3_lastHasRoom at h
  refine lv_aload_n hx hb dX3_lastHasRoom_0 rfl (lv_at hl 0 rfl) ?_
  refine tg_X3_freight X Y iX3_lastHasRoom_X3 kX3_lastHasRoom_0 dX3_lastHasRoom_1 ?_
  refine lv_aload_n hx hb dX3_lastHasRoom_4 rfl (lv_at hl 0 rfl) ?_
  refine tg_X3_row X Y iX3_lastHasRoom_X3 kX3_lastHasRoom_1 dX3_lastHasRoom_5 ?_
  refine lv_aload_n hx hb dX3_lastHasRoom_8 rfl (lv_at hl 0 rfl) ?_
  refine tg_X3_row X Y iX3_lastHasRoom_X3 kX3_lastHasRoom_1 dX3_lastHasRoom_9 ?_
  refine tn_X1_count (v := (S 13 0)) X Y iX3_lastHasRoom_X1 (ty_m 3 rfl) rfl dX3_lastHasRoom_12 ?_
  refine lv_iconst (v := (1 : Int32)) hx hb dX3_lastHasRoom_15 (by decide) ?_
  refine lv_isub hx hb dX3_lastHasRoom_16 ?_
  refine ty_Vi (As := [.int ((S 13 0) - (1 : Int32))]) (b := 4) (rest := [.ref (q 3)]) X Y (cX1_carAt_C l D cA q S ((S 13 0) - (1 : Int32)) _ h) rfl rfl (fun hts => cwV 1 hts gX3_lastHasRoom_X1_carAt rfl rfl rfl (by decide +kernel) ⟨Nat.le_of_ble_eq_true rfl, Nat.le_of_ble_eq_true rfl⟩) rfl hl.1 (Nat.le_of_ble_eq_true rfl) dX3_lastHasRoom_17 ⟨Nat.zero_le _, Nat.zero_le _⟩ (fun r1 S1 H locs h Y => ?_)
  refine ty_Vi (As := [.int r1]) (b := 3) (rest := []) X Y (cX0_room_C l D cA q S1 r1 _ h) rfl rfl (fun hts => cwV 1 hts gX3_lastHasRoom_X0_room rfl rfl rfl (by decide +kernel) ⟨Nat.le_of_ble_eq_true rfl, Nat.le_of_ble_eq_true rfl⟩) rfl hl.1 (Nat.le_of_ble_eq_true rfl) dX3_lastHasRoom_20 ⟨Nat.zero_le _, Nat.zero_le _⟩ (fun r2 S2 H locs h Y => ?_)
  refine lv_iload_n hx hb dX3_lastHasRoom_23 rfl (lv_at hl 1 rfl) ?_
  refine lv_icmp_lt (tgt := 31) hx hb dX3_lastHasRoom_24 (by decide) (fun c9 => ?_) (fun c9 => ?_)
  · have h := ty_t h c9
    refine lv_iconst (v := (0 : Int32)) hx hb dX3_lastHasRoom_31 (by decide) ?_
    exact ty_zret X Y h rfl dX3_lastHasRoom_32
  · have h := ty_f h c9
    refine lv_iconst (v := (1 : Int32)) hx hb dX3_lastHasRoom_27 (by decide) ?_
    refine lv_goto (tgt := 32) hx hb dX3_lastHasRoom_28 (by decide) ?_
    exact ty_zret X Y h rfl dX3_lastHasRoom_32

abbrev rX3_takesNew : Room := { frames := 2, cells := 0, slots := 0, locals := 42 }
theorem kX3_takesNew_0 : Cond.fieldLink RX3 21 "TrainYard$Yard" "row" "LTrainYard$Row;" ∈ wsX3_takesNew := ty_m 1 (by decide +kernel)
theorem iX3_takesNew_X3 : ∀ w ∈ wsX30, w ∈ wsX3_takesNew := ty_inp _ [25, 26, 27, 28, 29, 30, 31, 32, 33, 34, 35, 36, 37] (by decide +kernel)
def eX3_takesNew (S : ty_S) (x1 : Int32) (K : ty_S → Int32 → Prop) : Prop :=
  (eX3_lastHasRoom S x1 (fun S1 r1 => (if r1 = (0 : Int32) then (eX1_countFree S1  (fun S2 r2 => (if r2 < (2 : Int32) then K S2 (0 : Int32) else K S2 (1 : Int32)))) else K S1 (1 : Int32))))
set_option maxHeartbeats 4000000 in
set_option maxRecDepth 100000 in
theorem cX3_takesNew_C (l : Launch) (D : va_G) (cA : Nat → ClassId) (q : Nat → Nat) (S : ty_S) (x1 : Int32) (K : ty_S → Int32 → Prop) (h : eX3_takesNew S x1 K) : ∀ sz, Met l yX3_takesNew wsX3_takesNew rX3_takesNew (ty_Pc D cA q ty_LY S sz [.ref (q 1), .int x1]) (ty_Qi D cA q ty_LY sz K) 0 0 (ty_A q ty_LY.length sz) := by
  refine ty_ofM (ret := (some .boolean)) (maxL := 2) (cc := cX3_takesNew) (own := RX3) (Qc := fun sz => ty_Qi D cA q ty_LY sz K) (by decide +kernel) rfl (Nat.le_of_ble_eq_true rfl) rfl ?_
  intro p e s m args below meth c ls X hl Y
  have hx := X.1.1
  have hb := X.1.2.1
  have hl : lv_has ls 2 [(0, .ref (q 1)), (1, .int x1)] := hl
  unfold eX3_takesNew at h
  refine lv_aload_n hx hb dX3_takesNew_0 rfl (lv_at hl 0 rfl) ?_
  refine lv_iload_n hx hb dX3_takesNew_1 rfl (lv_at hl 1 rfl) ?_
  refine ty_Vi (As := [.int x1]) (b := 1) (rest := []) X Y (cX3_lastHasRoom_C l D cA q S x1 _ h) rfl rfl (fun hts => cwV 1 hts gX3_takesNew_X3_lastHasRoom rfl rfl rfl (by decide +kernel) ⟨Nat.le_of_ble_eq_true rfl, Nat.le_of_ble_eq_true rfl⟩) rfl hl.1 (Nat.le_of_ble_eq_true rfl) dX3_takesNew_2 ⟨Nat.zero_le _, Nat.zero_le _⟩ (fun r1 S1 H locs h Y => ?_)
  refine lv_if_ne (tgt := 19) hx hb dX3_takesNew_5 (by decide) (fun c9 => ?_) (fun c9 => ?_)
  · have h := ty_f h c9
    refine lv_iconst (v := (1 : Int32)) hx hb dX3_takesNew_19 (by decide) ?_
    refine lv_goto (tgt := 24) hx hb dX3_takesNew_20 (by decide) ?_
    exact ty_zret X Y h rfl dX3_takesNew_24
  · have h := ty_t h c9
    refine lv_aload_n hx hb dX3_takesNew_8 rfl (lv_at hl 0 rfl) ?_
    refine tg_X3_row X Y iX3_takesNew_X3 kX3_takesNew_0 dX3_takesNew_9 ?_
    refine ty_Vi (As := []) (b := 4) (rest := []) X Y (cX1_countFree_C l D cA q S1  _ h) rfl rfl (fun hts => cwV 0 hts gX3_takesNew_X1_countFree rfl rfl rfl (by decide +kernel) ⟨Nat.le_of_ble_eq_true rfl, Nat.le_of_ble_eq_true rfl⟩) rfl hl.1 (Nat.le_of_ble_eq_true rfl) dX3_takesNew_12 ⟨Nat.zero_le _, Nat.zero_le _⟩ (fun r2 S2 H locs h Y => ?_)
    refine lv_iconst (v := (2 : Int32)) hx hb dX3_takesNew_15 (by decide) ?_
    refine lv_icmp_lt (tgt := 23) hx hb dX3_takesNew_16 (by decide) (fun c9 => ?_) (fun c9 => ?_)
    · have h := ty_t h c9
      refine lv_iconst (v := (0 : Int32)) hx hb dX3_takesNew_23 (by decide) ?_
      exact ty_zret X Y h rfl dX3_takesNew_24
    · have h := ty_f h c9
      refine lv_iconst (v := (1 : Int32)) hx hb dX3_takesNew_19 (by decide) ?_
      refine lv_goto (tgt := 24) hx hb dX3_takesNew_20 (by decide) ?_
      exact ty_zret X Y h rfl dX3_takesNew_24

abbrev rX3_canStep : Room := { frames := 1, cells := 0, slots := 0, locals := 20 }
theorem kX3_canStep_0 : Cond.fieldLink RX3 21 "TrainYard$Yard" "row" "LTrainYard$Row;" ∈ wsX3_canStep := ty_m 1 (by decide +kernel)
theorem iX3_canStep_X1 : ∀ w ∈ wsX10, w ∈ wsX3_canStep := ty_inp _ [21, 22, 23, 24] (by decide +kernel)
theorem iX3_canStep_X3 : ∀ w ∈ wsX30, w ∈ wsX3_canStep := ty_inp _ [8, 9, 10, 11, 12, 13, 14, 15, 16, 17, 18, 19, 20] (by decide +kernel)
def eX3_canStep (S : ty_S)  (K : ty_S → Int32 → Prop) : Prop :=
  (if (S 13 0) ≤ (0 : Int32) then K S (0 : Int32) else (eX1_countFree S  (fun S1 r1 => (if r1 ≤ (0 : Int32) then K S1 (0 : Int32) else K S1 (1 : Int32)))))
set_option maxHeartbeats 4000000 in
set_option maxRecDepth 100000 in
theorem cX3_canStep_C (l : Launch) (D : va_G) (cA : Nat → ClassId) (q : Nat → Nat) (S : ty_S)  (K : ty_S → Int32 → Prop) (h : eX3_canStep S  K) : ∀ sz, Met l yX3_canStep wsX3_canStep rX3_canStep (ty_Pc D cA q ty_LY S sz [.ref (q 1)]) (ty_Qi D cA q ty_LY sz K) 0 0 (ty_A q ty_LY.length sz) := by
  refine ty_ofM (ret := (some .boolean)) (maxL := 1) (cc := cX3_canStep) (own := RX3) (Qc := fun sz => ty_Qi D cA q ty_LY sz K) (by decide +kernel) rfl (Nat.le_of_ble_eq_true rfl) rfl ?_
  intro p e s m args below meth c ls X hl Y
  have hx := X.1.1
  have hb := X.1.2.1
  have hl : lv_has ls 1 [(0, .ref (q 1))] := hl
  unfold eX3_canStep at h
  refine lv_aload_n hx hb dX3_canStep_0 rfl (lv_at hl 0 rfl) ?_
  refine tg_X3_row X Y iX3_canStep_X3 kX3_canStep_0 dX3_canStep_1 ?_
  refine tn_X1_count (v := (S 13 0)) X Y iX3_canStep_X1 (ty_m 3 rfl) rfl dX3_canStep_4 ?_
  refine lv_if_le (tgt := 24) hx hb dX3_canStep_7 (by decide) (fun c9 => ?_) (fun c9 => ?_)
  · have h := ty_t h c9
    refine lv_iconst (v := (0 : Int32)) hx hb dX3_canStep_24 (by decide) ?_
    exact ty_zret X Y h rfl dX3_canStep_25
  · have h := ty_f h c9
    refine lv_aload_n hx hb dX3_canStep_10 rfl (lv_at hl 0 rfl) ?_
    refine tg_X3_row X Y iX3_canStep_X3 kX3_canStep_0 dX3_canStep_11 ?_
    refine ty_Vi (As := []) (b := 4) (rest := []) X Y (cX1_countFree_C l D cA q S  _ h) rfl rfl (fun hts => cwV 0 hts gX3_canStep_X1_countFree rfl rfl rfl (by decide +kernel) ⟨Nat.le_of_ble_eq_true rfl, Nat.le_of_ble_eq_true rfl⟩) rfl hl.1 (Nat.le_of_ble_eq_true rfl) dX3_canStep_14 ⟨Nat.zero_le _, Nat.zero_le _⟩ (fun r1 S1 H locs h Y => ?_)
    refine lv_if_le (tgt := 24) hx hb dX3_canStep_17 (by decide) (fun c9 => ?_) (fun c9 => ?_)
    · have h := ty_t h c9
      refine lv_iconst (v := (0 : Int32)) hx hb dX3_canStep_24 (by decide) ?_
      exact ty_zret X Y h rfl dX3_canStep_25
    · have h := ty_f h c9
      refine lv_iconst (v := (1 : Int32)) hx hb dX3_canStep_20 (by decide) ?_
      refine lv_goto (tgt := 25) hx hb dX3_canStep_21 (by decide) ?_
      exact ty_zret X Y h rfl dX3_canStep_25

abbrev rX3_isReferredTo : Room := { frames := 2, cells := 0, slots := 0, locals := 40 }
theorem kX3_isReferredTo_0 : Cond.fieldLink RX3 12 "TrainYard$Yard" "freight" "LTrainYard$Freight;" ∈ wsX3_isReferredTo := ty_m 3 (by decide +kernel)
theorem kX3_isReferredTo_1 : Cond.fieldLink RX3 21 "TrainYard$Yard" "row" "LTrainYard$Row;" ∈ wsX3_isReferredTo := ty_m 1 (by decide +kernel)
theorem kX3_isReferredTo_2 : Cond.initialized yX4_carOf.cls ∈ wsX3_isReferredTo := ty_m 5 (by decide +kernel)
theorem kX3_isReferredTo_3 : Cond.static yX4_carOf ∈ wsX3_isReferredTo := ty_m 4 (by decide +kernel)
theorem kX3_isReferredTo_4 : Cond.fieldLink RX3 25 "TrainYard$Yard" "held" "[I" ∈ wsX3_isReferredTo := ty_m 2 (by decide +kernel)
theorem iX3_isReferredTo_X3 : ∀ w ∈ wsX30, w ∈ wsX3_isReferredTo := ty_inp _ [28, 29, 30, 31, 32, 33, 34, 35, 36, 37, 38, 39, 40] (by decide +kernel)
def jX3_isReferredTo_91 (K : ty_S → Int32 → Prop) (R45 : Int32 → Int32 → ty_S → Prop) (x1 : Int32) (x2 : Int32) (S : ty_S) : Prop :=
  (eX0_nextReference S (x2 + (1 : Int32)) (fun S5 r5 => R45 x1 r5 S5))
set_option maxHeartbeats 4000000 in
set_option maxRecDepth 100000 in
theorem wjX3_isReferredTo_91 {p : Program} {l : Launch} {e : Env} {s : State} {m : MethodId} {args : Array Value} {below : List Frame} {meth : Method} {c : Code} {D : va_G} {cA : Nat → ClassId} {q : Nat → Nat} {K : ty_S → Int32 → Prop} {R45 : Int32 → Int32 → ty_S → Prop} (X : ty_X D cA p s m args meth c cX3_isReferredTo 3 (some .boolean) wsX3_isReferredTo RX3) (hR45 : ∀ (x1 : Int32) (x2 : Int32) (S : ty_S) (H : Heap) (locs : List Loc) (ls : Array Slot), R45 x1 x2 S → ty_Y D cA q ty_LY S s H locs → lv_has ls 3 [(0, .ref (q 1)), (1, .int x1), (2, .int x2)] → W p l e rX3_isReferredTo s m args below meth c H locs 0 0 (ty_MI D cA q ty_LY K below args s) (F0 m 45 ls [])) (x1 : Int32) (x2 : Int32) (S : ty_S) (H : Heap) (locs : List Loc) (ls : Array Slot) (h : jX3_isReferredTo_91 K R45 x1 x2 S) (Y : ty_Y D cA q ty_LY S s H locs) (hl : lv_has ls 3 [(0, .ref (q 1)), (1, .int x1), (2, .int x2)]) : W p l e rX3_isReferredTo s m args below meth c H locs 0 0 (ty_MI D cA q ty_LY K below args s) (F0 m 91 ls []) := by
  have hx := X.1.1
  have hb := X.1.2.1
  unfold jX3_isReferredTo_91 at h
  refine lv_aload_n hx hb dX3_isReferredTo_91 rfl (lv_at hl 0 rfl) ?_
  refine tg_X3_freight X Y iX3_isReferredTo_X3 kX3_isReferredTo_0 dX3_isReferredTo_92 ?_
  refine lv_iload_n hx hb dX3_isReferredTo_95 rfl (lv_at hl 2 rfl) ?_
  refine lv_iconst (v := (1 : Int32)) hx hb dX3_isReferredTo_96 (by decide) ?_
  refine lv_iadd hx hb dX3_isReferredTo_97 ?_
  refine ty_Vi (As := [.int (x2 + (1 : Int32))]) (b := 3) (rest := []) X Y (cX0_nextReference_C l D cA q S (x2 + (1 : Int32)) _ h) rfl rfl (fun hts => cwV 1 hts gX3_isReferredTo_X0_nextReference rfl rfl rfl (by decide +kernel) ⟨Nat.le_of_ble_eq_true rfl, Nat.le_of_ble_eq_true rfl⟩) rfl hl.1 (Nat.le_of_ble_eq_true rfl) dX3_isReferredTo_98 ⟨Nat.zero_le _, Nat.zero_le _⟩ (fun r5 S5 H locs h Y => ?_)
  refine lv_istore_n (lv' := [(2, .int r5), (0, .ref (q 1)), (1, .int x1)]) hx hb dX3_isReferredTo_101 rfl hl (by decide) rfl (fun ls hl => ?_)
  refine lv_goto (tgt := 45) hx hb dX3_isReferredTo_102 (by decide) ?_
  exact hR45 _ _ _ _ _ _ h Y (lv_sub hl [1, 2, 0] rfl)
def lX3_isReferredTo_45 (K : ty_S → Int32 → Prop)  : Nat → Int32 → Int32 → ty_S → Prop
  | 0, _, _, _ => False
  | n + 1, x1, x2, S => (if (1280 : Int32) ≤ x2 then K S (0 : Int32) else (eX0_at S x2 (fun S2 r2 => (eX4_carOf S2 r2 (fun S3 r3 => (eX1_trainOf S3 r3 (fun S4 r4 => (if r4 = x1 then (eX4_carOf S4 x2 (fun S6 r6 => (eX1_trainOf S6 r6 (fun S7 r7 => (if r7 = x1 then jX3_isReferredTo_91 K (fun a0 a1 S9 => lX3_isReferredTo_45 K  n a0 a1 S9) x1 x2 S7 else K S7 (1 : Int32)))))) else jX3_isReferredTo_91 K (fun a0 a1 S9 => lX3_isReferredTo_45 K  n a0 a1 S9) x1 x2 S4))))))))
set_option maxHeartbeats 4000000 in
set_option maxRecDepth 100000 in
theorem wlX3_isReferredTo_45 {p : Program} {l : Launch} {e : Env} {s : State} {m : MethodId} {args : Array Value} {below : List Frame} {meth : Method} {c : Code} {D : va_G} {cA : Nat → ClassId} {q : Nat → Nat} {K : ty_S → Int32 → Prop}  (X : ty_X D cA p s m args meth c cX3_isReferredTo 3 (some .boolean) wsX3_isReferredTo RX3)  : ∀ (n : Nat) (x1 : Int32) (x2 : Int32) (S : ty_S) (H : Heap) (locs : List Loc) (ls : Array Slot), lX3_isReferredTo_45 K  n x1 x2 S → ty_Y D cA q ty_LY S s H locs → lv_has ls 3 [(0, .ref (q 1)), (1, .int x1), (2, .int x2)] → W p l e rX3_isReferredTo s m args below meth c H locs 0 0 (ty_MI D cA q ty_LY K below args s) (F0 m 45 ls []) := by
  have hx := X.1.1
  have hb := X.1.2.1
  intro n
  induction n with
  | zero =>
    intro x1 x2 S H locs ls h
    exact False.elim h
  | succ n ih =>
    intro x1 x2 S H locs ls h Y hl
    unfold lX3_isReferredTo_45 at h
    refine lv_iload_n hx hb dX3_isReferredTo_45 rfl (lv_at hl 2 rfl) ?_
    refine lv_sipush (v := (1280 : Int32)) hx hb dX3_isReferredTo_46 (by decide) ?_
    refine lv_icmp_ge (tgt := 105) hx hb dX3_isReferredTo_49 (by decide) (fun c9 => ?_) (fun c9 => ?_)
    · have h := ty_t h c9
      refine lv_iconst (v := (0 : Int32)) hx hb dX3_isReferredTo_105 (by decide) ?_
      exact ty_zret X Y h rfl dX3_isReferredTo_106
    · have h := ty_f h c9
      refine lv_aload_n hx hb dX3_isReferredTo_52 rfl (lv_at hl 0 rfl) ?_
      refine tg_X3_row X Y iX3_isReferredTo_X3 kX3_isReferredTo_1 dX3_isReferredTo_53 ?_
      refine lv_aload_n hx hb dX3_isReferredTo_56 rfl (lv_at hl 0 rfl) ?_
      refine tg_X3_freight X Y iX3_isReferredTo_X3 kX3_isReferredTo_0 dX3_isReferredTo_57 ?_
      refine lv_iload_n hx hb dX3_isReferredTo_60 rfl (lv_at hl 2 rfl) ?_
      refine ty_Vi (As := [.int x2]) (b := 3) (rest := [.ref (q 4)]) X Y (cX0_at_C l D cA q S x2 _ h) rfl rfl (fun hts => cwV 1 hts gX3_isReferredTo_X0_at rfl rfl rfl (by decide +kernel) ⟨Nat.le_of_ble_eq_true rfl, Nat.le_of_ble_eq_true rfl⟩) rfl hl.1 (Nat.le_of_ble_eq_true rfl) dX3_isReferredTo_61 ⟨Nat.zero_le _, Nat.zero_le _⟩ (fun r2 S2 H locs h Y => ?_)
      refine ty_SNi (As := [.int r2]) (rest := [.ref (q 4)]) X Y (cX4_carOf_C l D cA q S2 r2 _ h) (fun hts hN => ty_cwSN 1 hts hN gX3_isReferredTo_X4_carOf_n82 rfl (ty_m 14 rfl) kX3_isReferredTo_2 kX3_isReferredTo_3 rfl rfl (by decide +kernel) ⟨Nat.le_of_ble_eq_true rfl, Nat.le_of_ble_eq_true rfl⟩) rfl hl.1 (Nat.le_of_ble_eq_true rfl) dX3_isReferredTo_64 ⟨Nat.zero_le _, Nat.zero_le _⟩ (fun r3 S3 H locs h Y => ?_)
      refine ty_Vi (As := [.int r3]) (b := 4) (rest := []) X Y (cX1_trainOf_C l D cA q S3 r3 _ h) rfl rfl (fun hts => cwV 1 hts gX3_isReferredTo_X1_trainOf rfl rfl rfl (by decide +kernel) ⟨Nat.le_of_ble_eq_true rfl, Nat.le_of_ble_eq_true rfl⟩) rfl hl.1 (Nat.le_of_ble_eq_true rfl) dX3_isReferredTo_67 ⟨Nat.zero_le _, Nat.zero_le _⟩ (fun r4 S4 H locs h Y => ?_)
      refine lv_iload_n hx hb dX3_isReferredTo_70 rfl (lv_at hl 1 rfl) ?_
      refine lv_icmp_ne (tgt := 91) hx hb dX3_isReferredTo_71 (by decide) (fun c9 => ?_) (fun c9 => ?_)
      · have h := ty_f h c9
        exact wjX3_isReferredTo_91 X ih _ _ _ _ _ _ h Y (lv_sub hl [0, 1, 2] rfl)
      · have h := ty_t h c9
        refine lv_aload_n hx hb dX3_isReferredTo_74 rfl (lv_at hl 0 rfl) ?_
        refine tg_X3_row X Y iX3_isReferredTo_X3 kX3_isReferredTo_1 dX3_isReferredTo_75 ?_
        refine lv_iload_n hx hb dX3_isReferredTo_78 rfl (lv_at hl 2 rfl) ?_
        refine ty_SNi (As := [.int x2]) (rest := [.ref (q 4)]) X Y (cX4_carOf_C l D cA q S4 x2 _ h) (fun hts hN => ty_cwSN 1 hts hN gX3_isReferredTo_X4_carOf_n82 rfl (ty_m 14 rfl) kX3_isReferredTo_2 kX3_isReferredTo_3 rfl rfl (by decide +kernel) ⟨Nat.le_of_ble_eq_true rfl, Nat.le_of_ble_eq_true rfl⟩) rfl hl.1 (Nat.le_of_ble_eq_true rfl) dX3_isReferredTo_79 ⟨Nat.zero_le _, Nat.zero_le _⟩ (fun r6 S6 H locs h Y => ?_)
        refine ty_Vi (As := [.int r6]) (b := 4) (rest := []) X Y (cX1_trainOf_C l D cA q S6 r6 _ h) rfl rfl (fun hts => cwV 1 hts gX3_isReferredTo_X1_trainOf rfl rfl rfl (by decide +kernel) ⟨Nat.le_of_ble_eq_true rfl, Nat.le_of_ble_eq_true rfl⟩) rfl hl.1 (Nat.le_of_ble_eq_true rfl) dX3_isReferredTo_82 ⟨Nat.zero_le _, Nat.zero_le _⟩ (fun r7 S7 H locs h Y => ?_)
        refine lv_iload_n hx hb dX3_isReferredTo_85 rfl (lv_at hl 1 rfl) ?_
        refine lv_icmp_eq (tgt := 91) hx hb dX3_isReferredTo_86 (by decide) (fun c9 => ?_) (fun c9 => ?_)
        · have h := ty_t h c9
          exact wjX3_isReferredTo_91 X ih _ _ _ _ _ _ h Y (lv_sub hl [0, 1, 2] rfl)
        · have h := ty_f h c9
          refine lv_iconst (v := (1 : Int32)) hx hb dX3_isReferredTo_89 (by decide) ?_
          exact ty_zret X Y h rfl dX3_isReferredTo_90
def lX3_isReferredTo_2 (K : ty_S → Int32 → Prop)  : Nat → Int32 → Int32 → ty_S → Prop
  | 0, _, _, _ => False
  | n + 1, x1, x2, S => (if (16 : Int32) ≤ x2 then (eX0_nextReference S (0 : Int32) (fun S1 r1 => ∃ n9, lX3_isReferredTo_45 K  n9 x1 r1 S1)) else (vp_in x2 16 ∧ (eX4_carOf S (S 7 x2.toNatClampNeg) (fun S8 r8 => (eX1_trainOf S8 r8 (fun S9 r9 => (if r9 = x1 then K S9 (1 : Int32) else lX3_isReferredTo_2 K  n x1 (x2 + (1 : Int32)) S9)))))))
set_option maxHeartbeats 4000000 in
set_option maxRecDepth 100000 in
theorem wlX3_isReferredTo_2 {p : Program} {l : Launch} {e : Env} {s : State} {m : MethodId} {args : Array Value} {below : List Frame} {meth : Method} {c : Code} {D : va_G} {cA : Nat → ClassId} {q : Nat → Nat} {K : ty_S → Int32 → Prop}  (X : ty_X D cA p s m args meth c cX3_isReferredTo 3 (some .boolean) wsX3_isReferredTo RX3)  : ∀ (n : Nat) (x1 : Int32) (x2 : Int32) (S : ty_S) (H : Heap) (locs : List Loc) (ls : Array Slot), lX3_isReferredTo_2 K  n x1 x2 S → ty_Y D cA q ty_LY S s H locs → lv_has ls 3 [(0, .ref (q 1)), (1, .int x1), (2, .int x2)] → W p l e rX3_isReferredTo s m args below meth c H locs 0 0 (ty_MI D cA q ty_LY K below args s) (F0 m 2 ls []) := by
  have hx := X.1.1
  have hb := X.1.2.1
  intro n
  induction n with
  | zero =>
    intro x1 x2 S H locs ls h
    exact False.elim h
  | succ n ih =>
    intro x1 x2 S H locs ls h Y hl
    unfold lX3_isReferredTo_2 at h
    refine lv_iload_n hx hb dX3_isReferredTo_2 rfl (lv_at hl 2 rfl) ?_
    refine lv_bipush (v := (16 : Int32)) hx hb dX3_isReferredTo_3 (by decide) ?_
    refine lv_icmp_ge (tgt := 36) hx hb dX3_isReferredTo_5 (by decide) (fun c9 => ?_) (fun c9 => ?_)
    · have h := ty_t h c9
      refine lv_aload_n hx hb dX3_isReferredTo_36 rfl (lv_at hl 0 rfl) ?_
      refine tg_X3_freight X Y iX3_isReferredTo_X3 kX3_isReferredTo_0 dX3_isReferredTo_37 ?_
      refine lv_iconst (v := (0 : Int32)) hx hb dX3_isReferredTo_40 (by decide) ?_
      refine ty_Vi (As := [.int (0 : Int32)]) (b := 3) (rest := []) X Y (cX0_nextReference_C l D cA q S (0 : Int32) _ h) rfl rfl (fun hts => cwV 1 hts gX3_isReferredTo_X0_nextReference rfl rfl rfl (by decide +kernel) ⟨Nat.le_of_ble_eq_true rfl, Nat.le_of_ble_eq_true rfl⟩) rfl hl.1 (Nat.le_of_ble_eq_true rfl) dX3_isReferredTo_41 ⟨Nat.zero_le _, Nat.zero_le _⟩ (fun r1 S1 H locs h Y => ?_)
      refine lv_istore_n (lv' := [(2, .int r1), (0, .ref (q 1)), (1, .int x1)]) hx hb dX3_isReferredTo_44 rfl hl (by decide) rfl (fun ls hl => ?_)
      obtain ⟨n9, h⟩ := h
      exact wlX3_isReferredTo_45 X  n9 _ _ _ _ _ _ h Y (lv_sub hl [1, 2, 0] rfl)
    · have h := ty_f h c9
      refine lv_aload_n hx hb dX3_isReferredTo_8 rfl (lv_at hl 0 rfl) ?_
      refine tg_X3_row X Y iX3_isReferredTo_X3 kX3_isReferredTo_1 dX3_isReferredTo_9 ?_
      refine lv_aload_n hx hb dX3_isReferredTo_12 rfl (lv_at hl 0 rfl) ?_
      refine tg_X3_held X Y iX3_isReferredTo_X3 kX3_isReferredTo_4 dX3_isReferredTo_13 ?_
      refine lv_iload_n hx hb dX3_isReferredTo_16 rfl (lv_at hl 2 rfl) ?_
      refine ty_iald (v := (S 7 x2.toNatClampNeg)) X Y 5 16 7 rfl h.1 rfl dX3_isReferredTo_17 ?_
      have h := h.2
      refine ty_SNi (As := [.int (S 7 x2.toNatClampNeg)]) (rest := [.ref (q 4)]) X Y (cX4_carOf_C l D cA q S (S 7 x2.toNatClampNeg) _ h) (fun hts hN => ty_cwSN 1 hts hN gX3_isReferredTo_X4_carOf_n82 rfl (ty_m 14 rfl) kX3_isReferredTo_2 kX3_isReferredTo_3 rfl rfl (by decide +kernel) ⟨Nat.le_of_ble_eq_true rfl, Nat.le_of_ble_eq_true rfl⟩) rfl hl.1 (Nat.le_of_ble_eq_true rfl) dX3_isReferredTo_18 ⟨Nat.zero_le _, Nat.zero_le _⟩ (fun r8 S8 H locs h Y => ?_)
      refine ty_Vi (As := [.int r8]) (b := 4) (rest := []) X Y (cX1_trainOf_C l D cA q S8 r8 _ h) rfl rfl (fun hts => cwV 1 hts gX3_isReferredTo_X1_trainOf rfl rfl rfl (by decide +kernel) ⟨Nat.le_of_ble_eq_true rfl, Nat.le_of_ble_eq_true rfl⟩) rfl hl.1 (Nat.le_of_ble_eq_true rfl) dX3_isReferredTo_21 ⟨Nat.zero_le _, Nat.zero_le _⟩ (fun r9 S9 H locs h Y => ?_)
      refine lv_iload_n hx hb dX3_isReferredTo_24 rfl (lv_at hl 1 rfl) ?_
      refine lv_icmp_ne (tgt := 30) hx hb dX3_isReferredTo_25 (by decide) (fun c9 => ?_) (fun c9 => ?_)
      · have h := ty_f h c9
        refine lv_iinc (v := (x2 + (1 : Int32))) (lv' := [(2, .int (x2 + (1 : Int32))), (0, .ref (q 1)), (1, .int x1)]) hx hb dX3_isReferredTo_30 hl (k := 2) rfl rfl (by decide) rfl (fun ls hl => ?_)
        refine lv_goto (tgt := 2) hx hb dX3_isReferredTo_33 (by decide) ?_
        exact ih _ _ _ _ _ _ h Y (lv_sub hl [1, 2, 0] rfl)
      · have h := ty_t h c9
        refine lv_iconst (v := (1 : Int32)) hx hb dX3_isReferredTo_28 (by decide) ?_
        exact ty_zret X Y h rfl dX3_isReferredTo_29
def eX3_isReferredTo (S : ty_S) (x1 : Int32) (K : ty_S → Int32 → Prop) : Prop :=
  ∃ n9, lX3_isReferredTo_2 K  n9 x1 (0 : Int32) S
set_option maxHeartbeats 4000000 in
set_option maxRecDepth 100000 in
theorem cX3_isReferredTo_C (l : Launch) (D : va_G) (cA : Nat → ClassId) (q : Nat → Nat) (S : ty_S) (x1 : Int32) (K : ty_S → Int32 → Prop) (h : eX3_isReferredTo S x1 K) : ∀ sz, Met l yX3_isReferredTo wsX3_isReferredTo rX3_isReferredTo (ty_Pc D cA q ty_LY S sz [.ref (q 1), .int x1]) (ty_Qi D cA q ty_LY sz K) 0 0 (ty_A q ty_LY.length sz) := by
  refine ty_ofM (ret := (some .boolean)) (maxL := 3) (cc := cX3_isReferredTo) (own := RX3) (Qc := fun sz => ty_Qi D cA q ty_LY sz K) (by decide +kernel) rfl (Nat.le_of_ble_eq_true rfl) rfl ?_
  intro p e s m args below meth c ls X hl Y
  have hx := X.1.1
  have hb := X.1.2.1
  have hl : lv_has ls 3 [(0, .ref (q 1)), (1, .int x1)] := hl
  unfold eX3_isReferredTo at h
  refine lv_iconst (v := (0 : Int32)) hx hb dX3_isReferredTo_0 (by decide) ?_
  refine lv_istore_n (lv' := [(2, .int (0 : Int32)), (0, .ref (q 1)), (1, .int x1)]) hx hb dX3_isReferredTo_1 rfl hl (by decide) rfl (fun ls hl => ?_)
  obtain ⟨n9, h⟩ := h
  exact wlX3_isReferredTo_2 X  n9 _ _ _ _ _ _ h Y (lv_sub hl [1, 2, 0] rfl)

abbrev rX3_startEmptying : Room := { frames := 1, cells := 0, slots := 0, locals := 23 }
theorem kX3_startEmptying_0 : Cond.fieldLink RX3 21 "TrainYard$Yard" "row" "LTrainYard$Row;" ∈ wsX3_startEmptying := ty_m 1 (by decide +kernel)
theorem kX3_startEmptying_1 : Cond.fieldLink RX3 45 "TrainYard$Yard" "emptied" "I" ∈ wsX3_startEmptying := ty_m 2 (by decide +kernel)
theorem kX3_startEmptying_2 : Cond.fieldLink RX3 48 "TrainYard$Yard" "newPlaces" "[I" ∈ wsX3_startEmptying := ty_m 3 (by decide +kernel)
theorem kX3_startEmptying_3 : Cond.fieldLink RX3 54 "TrainYard$Yard" "movedCount" "I" ∈ wsX3_startEmptying := ty_m 4 (by decide +kernel)
theorem kX3_startEmptying_4 : Cond.fieldLink RX3 57 "TrainYard$Yard" "followed" "I" ∈ wsX3_startEmptying := ty_m 5 (by decide +kernel)
theorem iX3_startEmptying_X3 : ∀ w ∈ wsX30, w ∈ wsX3_startEmptying := ty_inp _ [17, 18, 19, 20, 21, 22, 23, 24, 25, 26, 27, 28, 29] (by decide +kernel)
def eX3_startEmptying (S : ty_S)  (K : ty_S → Prop) : Prop :=
  (eX1_carAt S (0 : Int32) (fun S1 r1 => K (ty_st (ty_st (ty_fill (ty_st S1 20 0 r1) 8 32 (-1 : Int32)) 21 0 (0 : Int32)) 22 0 (0 : Int32))))
set_option maxHeartbeats 4000000 in
set_option maxRecDepth 100000 in
theorem cX3_startEmptying_C (l : Launch) (D : va_G) (cA : Nat → ClassId) (q : Nat → Nat) (S : ty_S)  (K : ty_S → Prop) (h : eX3_startEmptying S  K) : ∀ sz, Met l yX3_startEmptying wsX3_startEmptying rX3_startEmptying (ty_Pc D cA q ty_LY S sz [.ref (q 1)]) (ty_Qv D cA q ty_LY sz K) 0 0 (ty_A q ty_LY.length sz) := by
  refine ty_ofM (ret := none) (maxL := 1) (cc := cX3_startEmptying) (own := RX3) (Qc := fun sz => ty_Qv D cA q ty_LY sz K) (by decide +kernel) rfl (Nat.le_of_ble_eq_true rfl) rfl ?_
  intro p e s m args below meth c ls X hl Y
  have hx := X.1.1
  have hb := X.1.2.1
  have hl : lv_has ls 1 [(0, .ref (q 1))] := hl
  unfold eX3_startEmptying at h
  refine lv_aload_n hx hb dX3_startEmptying_0 rfl (lv_at hl 0 rfl) ?_
  refine lv_aload_n hx hb dX3_startEmptying_1 rfl (lv_at hl 0 rfl) ?_
  refine tg_X3_row X Y iX3_startEmptying_X3 kX3_startEmptying_0 dX3_startEmptying_2 ?_
  refine lv_iconst (v := (0 : Int32)) hx hb dX3_startEmptying_5 (by decide) ?_
  refine ty_Vi (As := [.int (0 : Int32)]) (b := 4) (rest := [.ref (q 1)]) X Y (cX1_carAt_C l D cA q S (0 : Int32) _ h) rfl rfl (fun hts => cwV 1 hts gX3_startEmptying_X1_carAt rfl rfl rfl (by decide +kernel) ⟨Nat.le_of_ble_eq_true rfl, Nat.le_of_ble_eq_true rfl⟩) rfl hl.1 (Nat.le_of_ble_eq_true rfl) dX3_startEmptying_6 ⟨Nat.zero_le _, Nat.zero_le _⟩ (fun r1 S1 H locs h Y => ?_)
  refine tp_X3_emptied X Y iX3_startEmptying_X3 kX3_startEmptying_1 dX3_startEmptying_9 (fun H locs Y => ?_)
  refine lv_aload_n hx hb dX3_startEmptying_12 rfl (lv_at hl 0 rfl) ?_
  refine tg_X3_newPlaces X Y iX3_startEmptying_X3 kX3_startEmptying_2 dX3_startEmptying_13 ?_
  refine lv_iconst (v := (-1 : Int32)) hx hb dX3_startEmptying_16 (by decide) ?_
  refine ty_fillrow X Y 6 32 8 rfl (by decide) (by decide) (va_cwS 2 X.1.2.2.2.2 gX3_startEmptying_J7_fill_53178 rfl rfl rfl (by decide +kernel) ⟨Nat.le_of_ble_eq_true rfl, Nat.le_of_ble_eq_true rfl⟩) hl.1 (Nat.le_of_ble_eq_true rfl) dX3_startEmptying_17 ⟨Nat.zero_le _, Nat.zero_le _⟩ (fun H locs Y => ?_)
  refine lv_aload_n hx hb dX3_startEmptying_20 rfl (lv_at hl 0 rfl) ?_
  refine lv_iconst (v := (0 : Int32)) hx hb dX3_startEmptying_21 (by decide) ?_
  refine tp_X3_movedCount X Y iX3_startEmptying_X3 kX3_startEmptying_3 dX3_startEmptying_22 (fun H locs Y => ?_)
  refine lv_aload_n hx hb dX3_startEmptying_25 rfl (lv_at hl 0 rfl) ?_
  refine lv_iconst (v := (0 : Int32)) hx hb dX3_startEmptying_26 (by decide) ?_
  refine tp_X3_followed X Y iX3_startEmptying_X3 kX3_startEmptying_4 dX3_startEmptying_27 (fun H locs Y => ?_)
  exact ty_vret X Y h dX3_startEmptying_30

abbrev rX3_isStillThere : Room := { frames := 2, cells := 0, slots := 0, locals := 40 }
theorem kX3_isStillThere_0 : Cond.fieldLink RX3 45 "TrainYard$Yard" "emptied" "I" ∈ wsX3_isStillThere := ty_m 1 (by decide +kernel)
theorem kX3_isStillThere_1 : Cond.fieldLink RX3 48 "TrainYard$Yard" "newPlaces" "[I" ∈ wsX3_isStillThere := ty_m 2 (by decide +kernel)
theorem kX3_isStillThere_2 : Cond.initialized yX4_carOf.cls ∈ wsX3_isStillThere := ty_m 4 (by decide +kernel)
theorem kX3_isStillThere_3 : Cond.static yX4_carOf ∈ wsX3_isStillThere := ty_m 3 (by decide +kernel)
theorem iX3_isStillThere_X3 : ∀ w ∈ wsX30, w ∈ wsX3_isStillThere := ty_inp _ [9, 10, 11, 12, 13, 14, 15, 16, 17, 18, 19, 20, 21] (by decide +kernel)
def eX3_isStillThere (S : ty_S) (x1 : Int32) (K : ty_S → Int32 → Prop) : Prop :=
  (if x1 < (0 : Int32) then K S (0 : Int32) else (eX4_carOf S x1 (fun S1 r1 => (if r1 = (S1 20 0) then (vp_in (x1 - x1 / (32 : Int32) * (32 : Int32)) 32 ∧ (if (S1 8 (x1 - x1 / (32 : Int32) * (32 : Int32)).toNatClampNeg) = (-1 : Int32) then K S1 (1 : Int32) else K S1 (0 : Int32))) else K S1 (0 : Int32)))))
set_option maxHeartbeats 4000000 in
set_option maxRecDepth 100000 in
theorem cX3_isStillThere_C (l : Launch) (D : va_G) (cA : Nat → ClassId) (q : Nat → Nat) (S : ty_S) (x1 : Int32) (K : ty_S → Int32 → Prop) (h : eX3_isStillThere S x1 K) : ∀ sz, Met l yX3_isStillThere wsX3_isStillThere rX3_isStillThere (ty_Pc D cA q ty_LY S sz [.ref (q 1), .int x1]) (ty_Qi D cA q ty_LY sz K) 0 0 (ty_A q ty_LY.length sz) := by
  refine ty_ofM (ret := (some .boolean)) (maxL := 2) (cc := cX3_isStillThere) (own := RX3) (Qc := fun sz => ty_Qi D cA q ty_LY sz K) (by decide +kernel) rfl (Nat.le_of_ble_eq_true rfl) rfl ?_
  intro p e s m args below meth c ls X hl Y
  have hx := X.1.1
  have hb := X.1.2.1
  have hl : lv_has ls 2 [(0, .ref (q 1)), (1, .int x1)] := hl
  unfold eX3_isStillThere at h
  refine lv_iload_n hx hb dX3_isStillThere_0 rfl (lv_at hl 1 rfl) ?_
  refine lv_if_lt (tgt := 32) hx hb dX3_isStillThere_1 (by decide) (fun c9 => ?_) (fun c9 => ?_)
  · have h := ty_t h c9
    refine lv_iconst (v := (0 : Int32)) hx hb dX3_isStillThere_32 (by decide) ?_
    exact ty_zret X Y h rfl dX3_isStillThere_33
  · have h := ty_f h c9
    refine lv_iload_n hx hb dX3_isStillThere_4 rfl (lv_at hl 1 rfl) ?_
    refine ty_SNi (As := [.int x1]) (rest := []) X Y (cX4_carOf_C l D cA q S x1 _ h) (fun hts hN => ty_cwSN 1 hts hN gX3_isStillThere_X4_carOf_n82 rfl (ty_m 14 rfl) kX3_isStillThere_2 kX3_isStillThere_3 rfl rfl (by decide +kernel) ⟨Nat.le_of_ble_eq_true rfl, Nat.le_of_ble_eq_true rfl⟩) rfl hl.1 (Nat.le_of_ble_eq_true rfl) dX3_isStillThere_5 ⟨Nat.zero_le _, Nat.zero_le _⟩ (fun r1 S1 H locs h Y => ?_)
    refine lv_aload_n hx hb dX3_isStillThere_8 rfl (lv_at hl 0 rfl) ?_
    refine tg_X3_emptied (v := (S1 20 0)) X Y iX3_isStillThere_X3 kX3_isStillThere_0 rfl dX3_isStillThere_9 ?_
    refine lv_icmp_ne (tgt := 32) hx hb dX3_isStillThere_12 (by decide) (fun c9 => ?_) (fun c9 => ?_)
    · have h := ty_f h c9
      refine lv_iconst (v := (0 : Int32)) hx hb dX3_isStillThere_32 (by decide) ?_
      exact ty_zret X Y h rfl dX3_isStillThere_33
    · have h := ty_t h c9
      refine lv_aload_n hx hb dX3_isStillThere_15 rfl (lv_at hl 0 rfl) ?_
      refine tg_X3_newPlaces X Y iX3_isStillThere_X3 kX3_isStillThere_1 dX3_isStillThere_16 ?_
      refine lv_iload_n hx hb dX3_isStillThere_19 rfl (lv_at hl 1 rfl) ?_
      refine lv_bipush (v := (32 : Int32)) hx hb dX3_isStillThere_20 (by decide) ?_
      refine lv_irem hx hb dX3_isStillThere_22 (by decide) ?_
      refine ty_iald (v := (S1 8 (x1 - x1 / (32 : Int32) * (32 : Int32)).toNatClampNeg)) X Y 6 32 8 rfl h.1 rfl dX3_isStillThere_23 ?_
      have h := h.2
      refine lv_iconst (v := (-1 : Int32)) hx hb dX3_isStillThere_24 (by decide) ?_
      refine lv_icmp_ne (tgt := 32) hx hb dX3_isStillThere_25 (by decide) (fun c9 => ?_) (fun c9 => ?_)
      · have h := ty_f h c9
        refine lv_iconst (v := (0 : Int32)) hx hb dX3_isStillThere_32 (by decide) ?_
        exact ty_zret X Y h rfl dX3_isStillThere_33
      · have h := ty_t h c9
        refine lv_iconst (v := (1 : Int32)) hx hb dX3_isStillThere_28 (by decide) ?_
        refine lv_goto (tgt := 33) hx hb dX3_isStillThere_29 (by decide) ?_
        exact ty_zret X Y h rfl dX3_isStillThere_33

abbrev rX3_roomInStep : Room := { frames := 1, cells := 0, slots := 0, locals := 21 }
theorem kX3_roomInStep_0 : Cond.fieldLink RX3 45 "TrainYard$Yard" "emptied" "I" ∈ wsX3_roomInStep := ty_m 1 (by decide +kernel)
theorem kX3_roomInStep_1 : Cond.fieldLink RX3 12 "TrainYard$Yard" "freight" "LTrainYard$Freight;" ∈ wsX3_roomInStep := ty_m 2 (by decide +kernel)
theorem iX3_roomInStep_X3 : ∀ w ∈ wsX30, w ∈ wsX3_roomInStep := ty_inp _ [9, 10, 11, 12, 13, 14, 15, 16, 17, 18, 19, 20, 21] (by decide +kernel)
def eX3_roomInStep (S : ty_S) (x1 : Int32) (K : ty_S → Int32 → Prop) : Prop :=
  (if x1 = (S 20 0) then K S (0 : Int32) else (eX0_room S x1 (fun S1 r1 => K S1 r1)))
set_option maxHeartbeats 4000000 in
set_option maxRecDepth 100000 in
theorem cX3_roomInStep_C (l : Launch) (D : va_G) (cA : Nat → ClassId) (q : Nat → Nat) (S : ty_S) (x1 : Int32) (K : ty_S → Int32 → Prop) (h : eX3_roomInStep S x1 K) : ∀ sz, Met l yX3_roomInStep wsX3_roomInStep rX3_roomInStep (ty_Pc D cA q ty_LY S sz [.ref (q 1), .int x1]) (ty_Qi D cA q ty_LY sz K) 0 0 (ty_A q ty_LY.length sz) := by
  refine ty_ofM (ret := (some .int)) (maxL := 2) (cc := cX3_roomInStep) (own := RX3) (Qc := fun sz => ty_Qi D cA q ty_LY sz K) (by decide +kernel) rfl (Nat.le_of_ble_eq_true rfl) rfl ?_
  intro p e s m args below meth c ls X hl Y
  have hx := X.1.1
  have hb := X.1.2.1
  have hl : lv_has ls 2 [(0, .ref (q 1)), (1, .int x1)] := hl
  unfold eX3_roomInStep at h
  refine lv_iload_n hx hb dX3_roomInStep_0 rfl (lv_at hl 1 rfl) ?_
  refine lv_aload_n hx hb dX3_roomInStep_1 rfl (lv_at hl 0 rfl) ?_
  refine tg_X3_emptied (v := (S 20 0)) X Y iX3_roomInStep_X3 kX3_roomInStep_0 rfl dX3_roomInStep_2 ?_
  refine lv_icmp_ne (tgt := 12) hx hb dX3_roomInStep_5 (by decide) (fun c9 => ?_) (fun c9 => ?_)
  · have h := ty_f h c9
    refine lv_aload_n hx hb dX3_roomInStep_12 rfl (lv_at hl 0 rfl) ?_
    refine tg_X3_freight X Y iX3_roomInStep_X3 kX3_roomInStep_1 dX3_roomInStep_13 ?_
    refine lv_iload_n hx hb dX3_roomInStep_16 rfl (lv_at hl 1 rfl) ?_
    refine ty_Vi (As := [.int x1]) (b := 3) (rest := []) X Y (cX0_room_C l D cA q S x1 _ h) rfl rfl (fun hts => cwV 1 hts gX3_roomInStep_X0_room rfl rfl rfl (by decide +kernel) ⟨Nat.le_of_ble_eq_true rfl, Nat.le_of_ble_eq_true rfl⟩) rfl hl.1 (Nat.le_of_ble_eq_true rfl) dX3_roomInStep_17 ⟨Nat.zero_le _, Nat.zero_le _⟩ (fun r1 S1 H locs h Y => ?_)
    exact ty_iret X Y h dX3_roomInStep_20
  · have h := ty_t h c9
    refine lv_iconst (v := (0 : Int32)) hx hb dX3_roomInStep_8 (by decide) ?_
    refine lv_goto (tgt := 20) hx hb dX3_roomInStep_9 (by decide) ?_
    exact ty_iret X Y h dX3_roomInStep_20

abbrev rX3_carInto : Room := { frames := 2, cells := 0, slots := 0, locals := 44 }
theorem kX3_carInto_0 : Cond.fieldLink RX3 21 "TrainYard$Yard" "row" "LTrainYard$Row;" ∈ wsX3_carInto := ty_m 1 (by decide +kernel)
theorem iX3_carInto_X1 : ∀ w ∈ wsX10, w ∈ wsX3_carInto := ty_inp _ [56, 57, 58, 59] (by decide +kernel)
theorem iX3_carInto_X3 : ∀ w ∈ wsX30, w ∈ wsX3_carInto := ty_inp _ [43, 44, 45, 46, 47, 48, 49, 50, 51, 52, 53, 54, 55] (by decide +kernel)
def lX3_carInto_50 (K : ty_S → Int32 → Prop)  : Nat → Int32 → Int32 → ty_S → Prop
  | 0, _, _, _ => False
  | n + 1, x2, x4, S => (if x4 < (0 : Int32) then K S (-1 : Int32) else (eX1_carAt S x4 (fun S4 r4 => (eX3_roomInStep S4 r4 (fun S5 r5 => (if r5 < x2 then lX3_carInto_50 K  n x2 (x4 + (-1 : Int32)) S5 else (eX1_carAt S5 x4 (fun S6 r6 => K S6 r6))))))))
set_option maxHeartbeats 4000000 in
set_option maxRecDepth 100000 in
theorem wlX3_carInto_50 {p : Program} {l : Launch} {e : Env} {s : State} {m : MethodId} {args : Array Value} {below : List Frame} {meth : Method} {c : Code} {D : va_G} {cA : Nat → ClassId} {q : Nat → Nat} {K : ty_S → Int32 → Prop}  (X : ty_X D cA p s m args meth c cX3_carInto 5 (some .int) wsX3_carInto RX3)  : ∀ (n : Nat) (x2 : Int32) (x4 : Int32) (S : ty_S) (H : Heap) (locs : List Loc) (ls : Array Slot), lX3_carInto_50 K  n x2 x4 S → ty_Y D cA q ty_LY S s H locs → lv_has ls 5 [(0, .ref (q 1)), (2, .int x2), (4, .int x4)] → W p l e rX3_carInto s m args below meth c H locs 0 0 (ty_MI D cA q ty_LY K below args s) (F0 m 50 ls []) := by
  have hx := X.1.1
  have hb := X.1.2.1
  intro n
  induction n with
  | zero =>
    intro x2 x4 S H locs ls h
    exact False.elim h
  | succ n ih =>
    intro x2 x4 S H locs ls h Y hl
    unfold lX3_carInto_50 at h
    refine lv_iload hx hb dX3_carInto_50 (lv_at hl 2 rfl) ?_
    refine lv_if_lt (tgt := 88) hx hb dX3_carInto_52 (by decide) (fun c9 => ?_) (fun c9 => ?_)
    · have h := ty_t h c9
      refine lv_iconst (v := (-1 : Int32)) hx hb dX3_carInto_88 (by decide) ?_
      exact ty_iret X Y h dX3_carInto_89
    · have h := ty_f h c9
      refine lv_aload_n hx hb dX3_carInto_55 rfl (lv_at hl 0 rfl) ?_
      refine lv_aload_n hx hb dX3_carInto_56 rfl (lv_at hl 0 rfl) ?_
      refine tg_X3_row X Y iX3_carInto_X3 kX3_carInto_0 dX3_carInto_57 ?_
      refine lv_iload hx hb dX3_carInto_60 (lv_at hl 2 rfl) ?_
      refine ty_Vi (As := [.int x4]) (b := 4) (rest := [.ref (q 1)]) X Y (cX1_carAt_C l D cA q S x4 _ h) rfl rfl (fun hts => cwV 1 hts gX3_carInto_X1_carAt rfl rfl rfl (by decide +kernel) ⟨Nat.le_of_ble_eq_true rfl, Nat.le_of_ble_eq_true rfl⟩) rfl hl.1 (Nat.le_of_ble_eq_true rfl) dX3_carInto_62 ⟨Nat.zero_le _, Nat.zero_le _⟩ (fun r4 S4 H locs h Y => ?_)
      refine ty_Vi (As := [.int r4]) (b := 1) (rest := []) X Y (cX3_roomInStep_C l D cA q S4 r4 _ h) rfl rfl (fun hts => cwV 1 hts gX3_carInto_X3_roomInStep rfl rfl rfl (by decide +kernel) ⟨Nat.le_of_ble_eq_true rfl, Nat.le_of_ble_eq_true rfl⟩) rfl hl.1 (Nat.le_of_ble_eq_true rfl) dX3_carInto_65 ⟨Nat.zero_le _, Nat.zero_le _⟩ (fun r5 S5 H locs h Y => ?_)
      refine lv_iload_n hx hb dX3_carInto_68 rfl (lv_at hl 1 rfl) ?_
      refine lv_icmp_lt (tgt := 82) hx hb dX3_carInto_69 (by decide) (fun c9 => ?_) (fun c9 => ?_)
      · have h := ty_t h c9
        refine lv_iinc (v := (x4 + (-1 : Int32))) (lv' := [(4, .int (x4 + (-1 : Int32))), (0, .ref (q 1)), (2, .int x2)]) hx hb dX3_carInto_82 hl (k := 2) rfl rfl (by decide) rfl (fun ls hl => ?_)
        refine lv_goto (tgt := 50) hx hb dX3_carInto_85 (by decide) ?_
        exact ih _ _ _ _ _ _ h Y (lv_sub hl [1, 2, 0] rfl)
      · have h := ty_f h c9
        refine lv_aload_n hx hb dX3_carInto_72 rfl (lv_at hl 0 rfl) ?_
        refine tg_X3_row X Y iX3_carInto_X3 kX3_carInto_0 dX3_carInto_73 ?_
        refine lv_iload hx hb dX3_carInto_76 (lv_at hl 2 rfl) ?_
        refine ty_Vi (As := [.int x4]) (b := 4) (rest := []) X Y (cX1_carAt_C l D cA q S5 x4 _ h) rfl rfl (fun hts => cwV 1 hts gX3_carInto_X1_carAt rfl rfl rfl (by decide +kernel) ⟨Nat.le_of_ble_eq_true rfl, Nat.le_of_ble_eq_true rfl⟩) rfl hl.1 (Nat.le_of_ble_eq_true rfl) dX3_carInto_78 ⟨Nat.zero_le _, Nat.zero_le _⟩ (fun r6 S6 H locs h Y => ?_)
        exact ty_iret X Y h dX3_carInto_81
def eX3_carInto (S : ty_S) (x1 : Int32) (x2 : Int32) (K : ty_S → Int32 → Prop) : Prop :=
  (eX1_lastCarOf S x1 (fun S1 r1 => (eX3_roomInStep S1 r1 (fun S2 r2 => (if r2 < x2 then (eX1_countFree S2  (fun S3 r3 => (if r3 ≤ (0 : Int32) then ∃ n9, lX3_carInto_50 K  n9 x2 ((S3 13 0) - (1 : Int32)) S3 else (eX1_addCar S3 x1 (fun S7 r7 => K S7 r7))))) else K S2 r1)))))
set_option maxHeartbeats 4000000 in
set_option maxRecDepth 100000 in
theorem cX3_carInto_C (l : Launch) (D : va_G) (cA : Nat → ClassId) (q : Nat → Nat) (S : ty_S) (x1 : Int32) (x2 : Int32) (K : ty_S → Int32 → Prop) (h : eX3_carInto S x1 x2 K) : ∀ sz, Met l yX3_carInto wsX3_carInto rX3_carInto (ty_Pc D cA q ty_LY S sz [.ref (q 1), .int x1, .int x2]) (ty_Qi D cA q ty_LY sz K) 0 0 (ty_A q ty_LY.length sz) := by
  refine ty_ofM (ret := (some .int)) (maxL := 5) (cc := cX3_carInto) (own := RX3) (Qc := fun sz => ty_Qi D cA q ty_LY sz K) (by decide +kernel) rfl (Nat.le_of_ble_eq_true rfl) rfl ?_
  intro p e s m args below meth c ls X hl Y
  have hx := X.1.1
  have hb := X.1.2.1
  have hl : lv_has ls 5 [(0, .ref (q 1)), (1, .int x1), (2, .int x2)] := hl
  unfold eX3_carInto at h
  refine lv_aload_n hx hb dX3_carInto_0 rfl (lv_at hl 0 rfl) ?_
  refine tg_X3_row X Y iX3_carInto_X3 kX3_carInto_0 dX3_carInto_1 ?_
  refine lv_iload_n hx hb dX3_carInto_4 rfl (lv_at hl 1 rfl) ?_
  refine ty_Vi (As := [.int x1]) (b := 4) (rest := []) X Y (cX1_lastCarOf_C l D cA q S x1 _ h) rfl rfl (fun hts => cwV 1 hts gX3_carInto_X1_lastCarOf rfl rfl rfl (by decide +kernel) ⟨Nat.le_of_ble_eq_true rfl, Nat.le_of_ble_eq_true rfl⟩) rfl hl.1 (Nat.le_of_ble_eq_true rfl) dX3_carInto_5 ⟨Nat.zero_le _, Nat.zero_le _⟩ (fun r1 S1 H locs h Y => ?_)
  refine lv_istore_n (lv' := [(3, .int r1), (0, .ref (q 1)), (1, .int x1), (2, .int x2)]) hx hb dX3_carInto_8 rfl hl (by decide) rfl (fun ls hl => ?_)
  refine lv_aload_n hx hb dX3_carInto_9 rfl (lv_at hl 1 rfl) ?_
  refine lv_iload_n hx hb dX3_carInto_10 rfl (lv_at hl 0 rfl) ?_
  refine ty_Vi (As := [.int r1]) (b := 1) (rest := []) X Y (cX3_roomInStep_C l D cA q S1 r1 _ h) rfl rfl (fun hts => cwV 1 hts gX3_carInto_X3_roomInStep rfl rfl rfl (by decide +kernel) ⟨Nat.le_of_ble_eq_true rfl, Nat.le_of_ble_eq_true rfl⟩) rfl hl.1 (Nat.le_of_ble_eq_true rfl) dX3_carInto_11 ⟨Nat.zero_le _, Nat.zero_le _⟩ (fun r2 S2 H locs h Y => ?_)
  refine lv_iload_n hx hb dX3_carInto_14 rfl (lv_at hl 3 rfl) ?_
  refine lv_icmp_lt (tgt := 20) hx hb dX3_carInto_15 (by decide) (fun c9 => ?_) (fun c9 => ?_)
  · have h := ty_t h c9
    refine lv_aload_n hx hb dX3_carInto_20 rfl (lv_at hl 1 rfl) ?_
    refine tg_X3_row X Y iX3_carInto_X3 kX3_carInto_0 dX3_carInto_21 ?_
    refine ty_Vi (As := []) (b := 4) (rest := []) X Y (cX1_countFree_C l D cA q S2  _ h) rfl rfl (fun hts => cwV 0 hts gX3_carInto_X1_countFree rfl rfl rfl (by decide +kernel) ⟨Nat.le_of_ble_eq_true rfl, Nat.le_of_ble_eq_true rfl⟩) rfl hl.1 (Nat.le_of_ble_eq_true rfl) dX3_carInto_24 ⟨Nat.zero_le _, Nat.zero_le _⟩ (fun r3 S3 H locs h Y => ?_)
    refine lv_if_le (tgt := 39) hx hb dX3_carInto_27 (by decide) (fun c9 => ?_) (fun c9 => ?_)
    · have h := ty_t h c9
      refine lv_aload_n hx hb dX3_carInto_39 rfl (lv_at hl 1 rfl) ?_
      refine tg_X3_row X Y iX3_carInto_X3 kX3_carInto_0 dX3_carInto_40 ?_
      refine tn_X1_count (v := (S3 13 0)) X Y iX3_carInto_X1 (ty_m 3 rfl) rfl dX3_carInto_43 ?_
      refine lv_iconst (v := (1 : Int32)) hx hb dX3_carInto_46 (by decide) ?_
      refine lv_isub hx hb dX3_carInto_47 ?_
      refine lv_istore (lv' := [(4, .int ((S3 13 0) - (1 : Int32))), (3, .int r1), (0, .ref (q 1)), (1, .int x1), (2, .int x2)]) hx hb dX3_carInto_48 hl (by decide) rfl (fun ls hl => ?_)
      obtain ⟨n9, h⟩ := h
      exact wlX3_carInto_50 X  n9 _ _ _ _ _ _ h Y (lv_sub hl [2, 4, 0] rfl)
    · have h := ty_f h c9
      refine lv_aload_n hx hb dX3_carInto_30 rfl (lv_at hl 1 rfl) ?_
      refine tg_X3_row X Y iX3_carInto_X3 kX3_carInto_0 dX3_carInto_31 ?_
      refine lv_iload_n hx hb dX3_carInto_34 rfl (lv_at hl 2 rfl) ?_
      refine ty_Vi (As := [.int x1]) (b := 4) (rest := []) X Y (cX1_addCar_C l D cA q S3 x1 _ h) rfl rfl (fun hts => cwV 1 hts gX3_carInto_X1_addCar rfl rfl rfl (by decide +kernel) ⟨Nat.le_of_ble_eq_true rfl, Nat.le_of_ble_eq_true rfl⟩) rfl hl.1 (Nat.le_of_ble_eq_true rfl) dX3_carInto_35 ⟨Nat.zero_le _, Nat.zero_le _⟩ (fun r7 S7 H locs h Y => ?_)
      exact ty_iret X Y h dX3_carInto_38
  · have h := ty_f h c9
    refine lv_iload_n hx hb dX3_carInto_18 rfl (lv_at hl 0 rfl) ?_
    exact ty_iret X Y h dX3_carInto_19

abbrev rX3_moveOne : Room := { frames := 3, cells := 0, slots := 0, locals := 75 }
theorem kX3_moveOne_0 : Cond.fieldLink RX3 54 "TrainYard$Yard" "movedCount" "I" ∈ wsX3_moveOne := ty_m 1 (by decide +kernel)
theorem kX3_moveOne_1 : Cond.fieldLink RX3 51 "TrainYard$Yard" "moved" "[I" ∈ wsX3_moveOne := ty_m 2 (by decide +kernel)
theorem kX3_moveOne_2 : Cond.fieldLink RX3 12 "TrainYard$Yard" "freight" "LTrainYard$Freight;" ∈ wsX3_moveOne := ty_m 3 (by decide +kernel)
theorem kX3_moveOne_3 : Cond.fieldLink RX3 48 "TrainYard$Yard" "newPlaces" "[I" ∈ wsX3_moveOne := ty_m 4 (by decide +kernel)
theorem kX3_moveOne_4 : Cond.fieldLink RX3 39 "TrainYard$Yard" "thingsMoved" "I" ∈ wsX3_moveOne := ty_m 5 (by decide +kernel)
theorem kX3_moveOne_5 : Cond.fieldLink RX3 42 "TrainYard$Yard" "wordsMoved" "I" ∈ wsX3_moveOne := ty_m 6 (by decide +kernel)
theorem iX3_moveOne_X3 : ∀ w ∈ wsX30, w ∈ wsX3_moveOne := ty_inp _ [100, 101, 102, 103, 104, 105, 106, 107, 108, 109, 110, 111, 112] (by decide +kernel)
def eX3_moveOne (S : ty_S) (x1 : Int32) (x2 : Int32) (K : ty_S → Prop) : Prop :=
  (eX3_isStillThere S x1 (fun S1 r1 => (if r1 = (0 : Int32) then K S1 else (if (S1 21 0) < (16 : Int32) then (eX0_size S1 x1 (fun S2 r2 => (eX3_carInto S2 x2 r2 (fun S3 r3 => (eX0_bring S3 x1 r3 (fun S4 r4 => (if r4 = (-1 : Int32) then K S4 else (vp_in (x1 - x1 / (32 : Int32) * (32 : Int32)) 32 ∧ (vp_in (S4 21 0) 16 ∧ K (ty_st (ty_st (ty_st (ty_st (ty_st S4 8 (x1 - x1 / (32 : Int32) * (32 : Int32)).toNatClampNeg r4) 9 (S4 21 0).toNatClampNeg r4) 21 0 ((S4 21 0) + (1 : Int32))) 18 0 ((S4 18 0) + (1 : Int32))) 19 0 ((S4 19 0) + r2))))))))))) else K S1))))
set_option maxHeartbeats 4000000 in
set_option maxRecDepth 100000 in
theorem cX3_moveOne_C (l : Launch) (D : va_G) (cA : Nat → ClassId) (q : Nat → Nat) (S : ty_S) (x1 : Int32) (x2 : Int32) (K : ty_S → Prop) (h : eX3_moveOne S x1 x2 K) : ∀ sz, Met l yX3_moveOne wsX3_moveOne rX3_moveOne (ty_Pc D cA q ty_LY S sz [.ref (q 1), .int x1, .int x2]) (ty_Qv D cA q ty_LY sz K) 0 0 (ty_A q ty_LY.length sz) := by
  refine ty_ofM (ret := none) (maxL := 5) (cc := cX3_moveOne) (own := RX3) (Qc := fun sz => ty_Qv D cA q ty_LY sz K) (by decide +kernel) rfl (Nat.le_of_ble_eq_true rfl) rfl ?_
  intro p e s m args below meth c ls X hl Y
  have hx := X.1.1
  have hb := X.1.2.1
  have hl : lv_has ls 5 [(0, .ref (q 1)), (1, .int x1), (2, .int x2)] := hl
  unfold eX3_moveOne at h
  refine lv_aload_n hx hb dX3_moveOne_0 rfl (lv_at hl 0 rfl) ?_
  refine lv_iload_n hx hb dX3_moveOne_1 rfl (lv_at hl 1 rfl) ?_
  refine ty_Vi (As := [.int x1]) (b := 1) (rest := []) X Y (cX3_isStillThere_C l D cA q S x1 _ h) rfl rfl (fun hts => cwV 1 hts gX3_moveOne_X3_isStillThere rfl rfl rfl (by decide +kernel) ⟨Nat.le_of_ble_eq_true rfl, Nat.le_of_ble_eq_true rfl⟩) rfl hl.1 (Nat.le_of_ble_eq_true rfl) dX3_moveOne_2 ⟨Nat.zero_le _, Nat.zero_le _⟩ (fun r1 S1 H locs h Y => ?_)
  refine lv_if_eq (tgt := 20) hx hb dX3_moveOne_5 (by decide) (fun c9 => ?_) (fun c9 => ?_)
  · have h := ty_t h c9
    exact ty_vret X Y h dX3_moveOne_20
  · have h := ty_f h c9
    refine lv_aload_n hx hb dX3_moveOne_8 rfl (lv_at hl 0 rfl) ?_
    refine tg_X3_movedCount (v := (S1 21 0)) X Y iX3_moveOne_X3 kX3_moveOne_0 rfl dX3_moveOne_9 ?_
    refine lv_aload_n hx hb dX3_moveOne_12 rfl (lv_at hl 0 rfl) ?_
    refine tg_X3_moved X Y iX3_moveOne_X3 kX3_moveOne_1 dX3_moveOne_13 ?_
    refine ty_alen X Y 7 16 9 rfl (v := (16 : Int32)) (by decide) dX3_moveOne_16 ?_
    refine lv_icmp_lt (tgt := 21) hx hb dX3_moveOne_17 (by decide) (fun c9 => ?_) (fun c9 => ?_)
    · have h := ty_t h c9
      refine lv_aload_n hx hb dX3_moveOne_21 rfl (lv_at hl 0 rfl) ?_
      refine tg_X3_freight X Y iX3_moveOne_X3 kX3_moveOne_2 dX3_moveOne_22 ?_
      refine lv_iload_n hx hb dX3_moveOne_25 rfl (lv_at hl 1 rfl) ?_
      refine ty_Vi (As := [.int x1]) (b := 3) (rest := []) X Y (cX0_size_C l D cA q S1 x1 _ h) rfl rfl (fun hts => cwV 1 hts gX3_moveOne_X0_size rfl rfl rfl (by decide +kernel) ⟨Nat.le_of_ble_eq_true rfl, Nat.le_of_ble_eq_true rfl⟩) rfl hl.1 (Nat.le_of_ble_eq_true rfl) dX3_moveOne_26 ⟨Nat.zero_le _, Nat.zero_le _⟩ (fun r2 S2 H locs h Y => ?_)
      refine lv_istore_n (lv' := [(3, .int r2), (0, .ref (q 1)), (1, .int x1), (2, .int x2)]) hx hb dX3_moveOne_29 rfl hl (by decide) rfl (fun ls hl => ?_)
      refine lv_aload_n hx hb dX3_moveOne_30 rfl (lv_at hl 1 rfl) ?_
      refine tg_X3_freight X Y iX3_moveOne_X3 kX3_moveOne_2 dX3_moveOne_31 ?_
      refine lv_iload_n hx hb dX3_moveOne_34 rfl (lv_at hl 2 rfl) ?_
      refine lv_aload_n hx hb dX3_moveOne_35 rfl (lv_at hl 1 rfl) ?_
      refine lv_iload_n hx hb dX3_moveOne_36 rfl (lv_at hl 3 rfl) ?_
      refine lv_iload_n hx hb dX3_moveOne_37 rfl (lv_at hl 0 rfl) ?_
      refine ty_Vi (As := [.int x2, .int r2]) (b := 1) (rest := [.int x1, .ref (q 3)]) X Y (cX3_carInto_C l D cA q S2 x2 r2 _ h) rfl rfl (fun hts => cwV 2 hts gX3_moveOne_X3_carInto rfl rfl rfl (by decide +kernel) ⟨Nat.le_of_ble_eq_true rfl, Nat.le_of_ble_eq_true rfl⟩) rfl hl.1 (Nat.le_of_ble_eq_true rfl) dX3_moveOne_38 ⟨Nat.zero_le _, Nat.zero_le _⟩ (fun r3 S3 H locs h Y => ?_)
      refine ty_Vi (As := [.int x1, .int r3]) (b := 3) (rest := []) X Y (cX0_bring_C l D cA q S3 x1 r3 _ h) rfl rfl (fun hts => cwV 2 hts gX3_moveOne_X0_bring rfl rfl rfl (by decide +kernel) ⟨Nat.le_of_ble_eq_true rfl, Nat.le_of_ble_eq_true rfl⟩) rfl hl.1 (Nat.le_of_ble_eq_true rfl) dX3_moveOne_41 ⟨Nat.zero_le _, Nat.zero_le _⟩ (fun r4 S4 H locs h Y => ?_)
      refine lv_istore (lv' := [(4, .int r4), (3, .int r2), (0, .ref (q 1)), (1, .int x1), (2, .int x2)]) hx hb dX3_moveOne_44 hl (by decide) rfl (fun ls hl => ?_)
      refine lv_iload hx hb dX3_moveOne_46 (lv_at hl 0 rfl) ?_
      refine lv_iconst (v := (-1 : Int32)) hx hb dX3_moveOne_48 (by decide) ?_
      refine lv_icmp_ne (tgt := 53) hx hb dX3_moveOne_49 (by decide) (fun c9 => ?_) (fun c9 => ?_)
      · have h := ty_f h c9
        refine lv_aload_n hx hb dX3_moveOne_53 rfl (lv_at hl 2 rfl) ?_
        refine tg_X3_newPlaces X Y iX3_moveOne_X3 kX3_moveOne_3 dX3_moveOne_54 ?_
        refine lv_iload_n hx hb dX3_moveOne_57 rfl (lv_at hl 3 rfl) ?_
        refine lv_bipush (v := (32 : Int32)) hx hb dX3_moveOne_58 (by decide) ?_
        refine lv_irem hx hb dX3_moveOne_60 (by decide) ?_
        refine lv_iload hx hb dX3_moveOne_61 (lv_at hl 0 rfl) ?_
        refine ty_iast X Y 6 32 8 rfl (by decide) h.1 dX3_moveOne_63 (fun H locs Y => ?_)
        have h := h.2
        refine lv_aload_n hx hb dX3_moveOne_64 rfl (lv_at hl 2 rfl) ?_
        refine tg_X3_moved X Y iX3_moveOne_X3 kX3_moveOne_1 dX3_moveOne_65 ?_
        refine lv_aload_n hx hb dX3_moveOne_68 rfl (lv_at hl 2 rfl) ?_
        refine tg_X3_movedCount (v := (S4 21 0)) X Y iX3_moveOne_X3 kX3_moveOne_0 rfl dX3_moveOne_69 ?_
        refine lv_iload hx hb dX3_moveOne_72 (lv_at hl 0 rfl) ?_
        refine ty_iast X Y 7 16 9 rfl (by decide) h.1 dX3_moveOne_74 (fun H locs Y => ?_)
        have h := h.2
        refine lv_aload_n hx hb dX3_moveOne_75 rfl (lv_at hl 2 rfl) ?_
        refine lv_dup hx hb dX3_moveOne_76 rfl ?_
        refine tg_X3_movedCount (v := (S4 21 0)) X Y iX3_moveOne_X3 kX3_moveOne_0 rfl dX3_moveOne_77 ?_
        refine lv_iconst (v := (1 : Int32)) hx hb dX3_moveOne_80 (by decide) ?_
        refine lv_iadd hx hb dX3_moveOne_81 ?_
        refine tp_X3_movedCount X Y iX3_moveOne_X3 kX3_moveOne_0 dX3_moveOne_82 (fun H locs Y => ?_)
        refine lv_aload_n hx hb dX3_moveOne_85 rfl (lv_at hl 2 rfl) ?_
        refine lv_dup hx hb dX3_moveOne_86 rfl ?_
        refine tg_X3_thingsMoved (v := (S4 18 0)) X Y iX3_moveOne_X3 kX3_moveOne_4 rfl dX3_moveOne_87 ?_
        refine lv_iconst (v := (1 : Int32)) hx hb dX3_moveOne_90 (by decide) ?_
        refine lv_iadd hx hb dX3_moveOne_91 ?_
        refine tp_X3_thingsMoved X Y iX3_moveOne_X3 kX3_moveOne_4 dX3_moveOne_92 (fun H locs Y => ?_)
        refine lv_aload_n hx hb dX3_moveOne_95 rfl (lv_at hl 2 rfl) ?_
        refine lv_dup hx hb dX3_moveOne_96 rfl ?_
        refine tg_X3_wordsMoved (v := (S4 19 0)) X Y iX3_moveOne_X3 kX3_moveOne_5 rfl dX3_moveOne_97 ?_
        refine lv_iload_n hx hb dX3_moveOne_100 rfl (lv_at hl 1 rfl) ?_
        refine lv_iadd hx hb dX3_moveOne_101 ?_
        refine tp_X3_wordsMoved X Y iX3_moveOne_X3 kX3_moveOne_5 dX3_moveOne_102 (fun H locs Y => ?_)
        exact ty_vret X Y h dX3_moveOne_105
      · have h := ty_t h c9
        exact ty_vret X Y h dX3_moveOne_52
    · have h := ty_f h c9
      exact ty_vret X Y h dX3_moveOne_20

abbrev rX3_moveWithOthers : Room := { frames := 4, cells := 0, slots := 0, locals := 99 }
theorem kX3_moveWithOthers_0 : Cond.fieldLink RX3 57 "TrainYard$Yard" "followed" "I" ∈ wsX3_moveWithOthers := ty_m 1 (by decide +kernel)
theorem kX3_moveWithOthers_1 : Cond.fieldLink RX3 54 "TrainYard$Yard" "movedCount" "I" ∈ wsX3_moveWithOthers := ty_m 2 (by decide +kernel)
theorem kX3_moveWithOthers_2 : Cond.fieldLink RX3 51 "TrainYard$Yard" "moved" "[I" ∈ wsX3_moveWithOthers := ty_m 3 (by decide +kernel)
theorem kX3_moveWithOthers_3 : Cond.fieldLink RX3 12 "TrainYard$Yard" "freight" "LTrainYard$Freight;" ∈ wsX3_moveWithOthers := ty_m 4 (by decide +kernel)
theorem kX3_moveWithOthers_4 : Cond.fieldLink RX3 21 "TrainYard$Yard" "row" "LTrainYard$Row;" ∈ wsX3_moveWithOthers := ty_m 5 (by decide +kernel)
theorem kX3_moveWithOthers_5 : Cond.initialized yX4_carOf.cls ∈ wsX3_moveWithOthers := ty_m 20 (by decide +kernel)
theorem kX3_moveWithOthers_6 : Cond.static yX4_carOf ∈ wsX3_moveWithOthers := ty_m 19 (by decide +kernel)
theorem iX3_moveWithOthers_X3 : ∀ w ∈ wsX30, w ∈ wsX3_moveWithOthers := ty_inp _ [108, 109, 110, 111, 112, 113, 114, 115, 116, 117, 118, 119, 120] (by decide +kernel)
def lX3_moveWithOthers_58 (K : ty_S → Prop) (R6 : ty_S → Prop) : Nat → Int32 → Int32 → Int32 → ty_S → Prop
  | 0, _, _, _, _ => False
  | n + 1, x3, x4, x5, S => (if x4 ≤ x5 then R6  (ty_st S 22 0 ((S 22 0) + (1 : Int32))) else (eX0_at S x5 (fun S3 r3 => (eX4_carOf S3 x3 (fun S4 r4 => (eX1_trainOf S4 r4 (fun S5 r5 => (eX3_moveOne S5 r3 r5 (fun S6 => lX3_moveWithOthers_58 K R6 n x3 x4 (x5 + (1 : Int32)) S6)))))))))
set_option maxHeartbeats 4000000 in
set_option maxRecDepth 100000 in
theorem wlX3_moveWithOthers_58 {p : Program} {l : Launch} {e : Env} {s : State} {m : MethodId} {args : Array Value} {below : List Frame} {meth : Method} {c : Code} {D : va_G} {cA : Nat → ClassId} {q : Nat → Nat} {K : ty_S → Prop} {R6 : ty_S → Prop} (X : ty_X D cA p s m args meth c cX3_moveWithOthers 6 none wsX3_moveWithOthers RX3) (hR6 : ∀  (S : ty_S) (H : Heap) (locs : List Loc) (ls : Array Slot), R6  S → ty_Y D cA q ty_LY S s H locs → lv_has ls 6 [(0, .ref (q 1))] → W p l e rX3_moveWithOthers s m args below meth c H locs 0 0 (ty_MV D cA q ty_LY K below args s) (F0 m 6 ls [])) : ∀ (n : Nat) (x3 : Int32) (x4 : Int32) (x5 : Int32) (S : ty_S) (H : Heap) (locs : List Loc) (ls : Array Slot), lX3_moveWithOthers_58 K R6 n x3 x4 x5 S → ty_Y D cA q ty_LY S s H locs → lv_has ls 6 [(0, .ref (q 1)), (3, .int x3), (4, .int x4), (5, .int x5)] → W p l e rX3_moveWithOthers s m args below meth c H locs 0 0 (ty_MV D cA q ty_LY K below args s) (F0 m 58 ls []) := by
  have hx := X.1.1
  have hb := X.1.2.1
  intro n
  induction n with
  | zero =>
    intro x3 x4 x5 S H locs ls h
    exact False.elim h
  | succ n ih =>
    intro x3 x4 x5 S H locs ls h Y hl
    unfold lX3_moveWithOthers_58 at h
    refine lv_iload hx hb dX3_moveWithOthers_58 (lv_at hl 3 rfl) ?_
    refine lv_iload hx hb dX3_moveWithOthers_60 (lv_at hl 2 rfl) ?_
    refine lv_icmp_ge (tgt := 95) hx hb dX3_moveWithOthers_62 (by decide) (fun c9 => ?_) (fun c9 => ?_)
    · have h := ty_t h c9
      refine lv_aload_n hx hb dX3_moveWithOthers_95 rfl (lv_at hl 0 rfl) ?_
      refine lv_dup hx hb dX3_moveWithOthers_96 rfl ?_
      refine tg_X3_followed (v := (S 22 0)) X Y iX3_moveWithOthers_X3 kX3_moveWithOthers_0 rfl dX3_moveWithOthers_97 ?_
      refine lv_iconst (v := (1 : Int32)) hx hb dX3_moveWithOthers_100 (by decide) ?_
      refine lv_iadd hx hb dX3_moveWithOthers_101 ?_
      refine tp_X3_followed X Y iX3_moveWithOthers_X3 kX3_moveWithOthers_0 dX3_moveWithOthers_102 (fun H locs Y => ?_)
      refine lv_goto (tgt := 6) hx hb dX3_moveWithOthers_105 (by decide) ?_
      exact hR6 _ _ _ _ h Y (lv_sub hl [0] rfl)
    · have h := ty_f h c9
      refine lv_aload_n hx hb dX3_moveWithOthers_65 rfl (lv_at hl 0 rfl) ?_
      refine lv_aload_n hx hb dX3_moveWithOthers_66 rfl (lv_at hl 0 rfl) ?_
      refine tg_X3_freight X Y iX3_moveWithOthers_X3 kX3_moveWithOthers_3 dX3_moveWithOthers_67 ?_
      refine lv_iload hx hb dX3_moveWithOthers_70 (lv_at hl 3 rfl) ?_
      refine ty_Vi (As := [.int x5]) (b := 3) (rest := [.ref (q 1)]) X Y (cX0_at_C l D cA q S x5 _ h) rfl rfl (fun hts => cwV 1 hts gX3_moveWithOthers_X0_at rfl rfl rfl (by decide +kernel) ⟨Nat.le_of_ble_eq_true rfl, Nat.le_of_ble_eq_true rfl⟩) rfl hl.1 (Nat.le_of_ble_eq_true rfl) dX3_moveWithOthers_72 ⟨Nat.zero_le _, Nat.zero_le _⟩ (fun r3 S3 H locs h Y => ?_)
      refine lv_aload_n hx hb dX3_moveWithOthers_75 rfl (lv_at hl 0 rfl) ?_
      refine tg_X3_row X Y iX3_moveWithOthers_X3 kX3_moveWithOthers_4 dX3_moveWithOthers_76 ?_
      refine lv_iload_n hx hb dX3_moveWithOthers_79 rfl (lv_at hl 1 rfl) ?_
      refine ty_SNi (As := [.int x3]) (rest := [.ref (q 4), .int r3, .ref (q 1)]) X Y (cX4_carOf_C l D cA q S3 x3 _ h) (fun hts hN => ty_cwSN 1 hts hN gX3_moveWithOthers_X4_carOf_n82 rfl (ty_m 14 rfl) kX3_moveWithOthers_5 kX3_moveWithOthers_6 rfl rfl (by decide +kernel) ⟨Nat.le_of_ble_eq_true rfl, Nat.le_of_ble_eq_true rfl⟩) rfl hl.1 (Nat.le_of_ble_eq_true rfl) dX3_moveWithOthers_80 ⟨Nat.zero_le _, Nat.zero_le _⟩ (fun r4 S4 H locs h Y => ?_)
      refine ty_Vi (As := [.int r4]) (b := 4) (rest := [.int r3, .ref (q 1)]) X Y (cX1_trainOf_C l D cA q S4 r4 _ h) rfl rfl (fun hts => cwV 1 hts gX3_moveWithOthers_X1_trainOf rfl rfl rfl (by decide +kernel) ⟨Nat.le_of_ble_eq_true rfl, Nat.le_of_ble_eq_true rfl⟩) rfl hl.1 (Nat.le_of_ble_eq_true rfl) dX3_moveWithOthers_83 ⟨Nat.zero_le _, Nat.zero_le _⟩ (fun r5 S5 H locs h Y => ?_)
      refine ty_Vv (As := [.int r3, .int r5]) (b := 1) (rest := []) X Y (cX3_moveOne_C l D cA q S5 r3 r5 _ h) rfl rfl (fun hts => cwV 2 hts gX3_moveWithOthers_X3_moveOne rfl rfl rfl (by decide +kernel) ⟨Nat.le_of_ble_eq_true rfl, Nat.le_of_ble_eq_true rfl⟩) rfl hl.1 (Nat.le_of_ble_eq_true rfl) dX3_moveWithOthers_86 ⟨Nat.zero_le _, Nat.zero_le _⟩ (fun S6 H locs h Y => ?_)
      refine lv_iinc (v := (x5 + (1 : Int32))) (lv' := [(5, .int (x5 + (1 : Int32))), (0, .ref (q 1)), (3, .int x3), (4, .int x4)]) hx hb dX3_moveWithOthers_89 hl (k := 3) rfl rfl (by decide) rfl (fun ls hl => ?_)
      refine lv_goto (tgt := 58) hx hb dX3_moveWithOthers_92 (by decide) ?_
      exact ih _ _ _ _ _ _ _ h Y (lv_sub hl [1, 2, 3, 0] rfl)
def lX3_moveWithOthers_6 (K : ty_S → Prop)  : Nat → ty_S → Prop
  | 0, _ => False
  | n + 1, S => (if (S 21 0) ≤ (S 22 0) then K S else (if (16 : Int32) ≤ (S 22 0) then K S else (vp_in (S 22 0) 16 ∧ (eX0_references S (S 9 (S 22 0).toNatClampNeg) (fun S2 r2 => ∃ n9, lX3_moveWithOthers_58 K (fun  S9 => lX3_moveWithOthers_6 K  n  S9) n9 (S 9 (S 22 0).toNatClampNeg) (((S 9 (S 22 0).toNatClampNeg) + (2 : Int32)) + r2) ((S 9 (S 22 0).toNatClampNeg) + (2 : Int32)) S2)))))
set_option maxHeartbeats 4000000 in
set_option maxRecDepth 100000 in
theorem wlX3_moveWithOthers_6 {p : Program} {l : Launch} {e : Env} {s : State} {m : MethodId} {args : Array Value} {below : List Frame} {meth : Method} {c : Code} {D : va_G} {cA : Nat → ClassId} {q : Nat → Nat} {K : ty_S → Prop}  (X : ty_X D cA p s m args meth c cX3_moveWithOthers 6 none wsX3_moveWithOthers RX3)  : ∀ (n : Nat)  (S : ty_S) (H : Heap) (locs : List Loc) (ls : Array Slot), lX3_moveWithOthers_6 K  n  S → ty_Y D cA q ty_LY S s H locs → lv_has ls 6 [(0, .ref (q 1))] → W p l e rX3_moveWithOthers s m args below meth c H locs 0 0 (ty_MV D cA q ty_LY K below args s) (F0 m 6 ls []) := by
  have hx := X.1.1
  have hb := X.1.2.1
  intro n
  induction n with
  | zero =>
    intro  S H locs ls h
    exact False.elim h
  | succ n ih =>
    intro  S H locs ls h Y hl
    unfold lX3_moveWithOthers_6 at h
    refine lv_aload_n hx hb dX3_moveWithOthers_6 rfl (lv_at hl 0 rfl) ?_
    refine tg_X3_followed (v := (S 22 0)) X Y iX3_moveWithOthers_X3 kX3_moveWithOthers_0 rfl dX3_moveWithOthers_7 ?_
    refine lv_aload_n hx hb dX3_moveWithOthers_10 rfl (lv_at hl 0 rfl) ?_
    refine tg_X3_movedCount (v := (S 21 0)) X Y iX3_moveWithOthers_X3 kX3_moveWithOthers_1 rfl dX3_moveWithOthers_11 ?_
    refine lv_icmp_ge (tgt := 108) hx hb dX3_moveWithOthers_14 (by decide) (fun c9 => ?_) (fun c9 => ?_)
    · have h := ty_t h c9
      exact ty_vret X Y h dX3_moveWithOthers_108
    · have h := ty_f h c9
      refine lv_aload_n hx hb dX3_moveWithOthers_17 rfl (lv_at hl 0 rfl) ?_
      refine tg_X3_followed (v := (S 22 0)) X Y iX3_moveWithOthers_X3 kX3_moveWithOthers_0 rfl dX3_moveWithOthers_18 ?_
      refine lv_aload_n hx hb dX3_moveWithOthers_21 rfl (lv_at hl 0 rfl) ?_
      refine tg_X3_moved X Y iX3_moveWithOthers_X3 kX3_moveWithOthers_2 dX3_moveWithOthers_22 ?_
      refine ty_alen X Y 7 16 9 rfl (v := (16 : Int32)) (by decide) dX3_moveWithOthers_25 ?_
      refine lv_icmp_ge (tgt := 108) hx hb dX3_moveWithOthers_26 (by decide) (fun c9 => ?_) (fun c9 => ?_)
      · have h := ty_t h c9
        exact ty_vret X Y h dX3_moveWithOthers_108
      · have h := ty_f h c9
        refine lv_aload_n hx hb dX3_moveWithOthers_29 rfl (lv_at hl 0 rfl) ?_
        refine tg_X3_moved X Y iX3_moveWithOthers_X3 kX3_moveWithOthers_2 dX3_moveWithOthers_30 ?_
        refine lv_aload_n hx hb dX3_moveWithOthers_33 rfl (lv_at hl 0 rfl) ?_
        refine tg_X3_followed (v := (S 22 0)) X Y iX3_moveWithOthers_X3 kX3_moveWithOthers_0 rfl dX3_moveWithOthers_34 ?_
        refine ty_iald (v := (S 9 (S 22 0).toNatClampNeg)) X Y 7 16 9 rfl h.1 rfl dX3_moveWithOthers_37 ?_
        have h := h.2
        refine lv_istore_n (lv' := [(3, .int (S 9 (S 22 0).toNatClampNeg)), (0, .ref (q 1))]) hx hb dX3_moveWithOthers_38 rfl hl (by decide) rfl (fun ls hl => ?_)
        refine lv_iload_n hx hb dX3_moveWithOthers_39 rfl (lv_at hl 0 rfl) ?_
        refine lv_iconst (v := (2 : Int32)) hx hb dX3_moveWithOthers_40 (by decide) ?_
        refine lv_iadd hx hb dX3_moveWithOthers_41 ?_
        refine lv_aload_n hx hb dX3_moveWithOthers_42 rfl (lv_at hl 1 rfl) ?_
        refine tg_X3_freight X Y iX3_moveWithOthers_X3 kX3_moveWithOthers_3 dX3_moveWithOthers_43 ?_
        refine lv_iload_n hx hb dX3_moveWithOthers_46 rfl (lv_at hl 0 rfl) ?_
        refine ty_Vi (As := [.int (S 9 (S 22 0).toNatClampNeg)]) (b := 3) (rest := [.int ((S 9 (S 22 0).toNatClampNeg) + (2 : Int32))]) X Y (cX0_references_C l D cA q S (S 9 (S 22 0).toNatClampNeg) _ h) rfl rfl (fun hts => cwV 1 hts gX3_moveWithOthers_X0_references rfl rfl rfl (by decide +kernel) ⟨Nat.le_of_ble_eq_true rfl, Nat.le_of_ble_eq_true rfl⟩) rfl hl.1 (Nat.le_of_ble_eq_true rfl) dX3_moveWithOthers_47 ⟨Nat.zero_le _, Nat.zero_le _⟩ (fun r2 S2 H locs h Y => ?_)
        refine lv_iadd hx hb dX3_moveWithOthers_50 ?_
        refine lv_istore (lv' := [(4, .int (((S 9 (S 22 0).toNatClampNeg) + (2 : Int32)) + r2)), (3, .int (S 9 (S 22 0).toNatClampNeg)), (0, .ref (q 1))]) hx hb dX3_moveWithOthers_51 hl (by decide) rfl (fun ls hl => ?_)
        refine lv_iload_n hx hb dX3_moveWithOthers_53 rfl (lv_at hl 1 rfl) ?_
        refine lv_iconst (v := (2 : Int32)) hx hb dX3_moveWithOthers_54 (by decide) ?_
        refine lv_iadd hx hb dX3_moveWithOthers_55 ?_
        refine lv_istore (lv' := [(5, .int ((S 9 (S 22 0).toNatClampNeg) + (2 : Int32))), (4, .int (((S 9 (S 22 0).toNatClampNeg) + (2 : Int32)) + r2)), (3, .int (S 9 (S 22 0).toNatClampNeg)), (0, .ref (q 1))]) hx hb dX3_moveWithOthers_56 hl (by decide) rfl (fun ls hl => ?_)
        obtain ⟨n9, h⟩ := h
        exact wlX3_moveWithOthers_58 X ih n9 _ _ _ _ _ _ _ h Y (lv_sub hl [3, 2, 1, 0] rfl)
def eX3_moveWithOthers (S : ty_S) (x1 : Int32) (x2 : Int32) (K : ty_S → Prop) : Prop :=
  (eX3_moveOne S x1 x2 (fun S1 => ∃ n9, lX3_moveWithOthers_6 K  n9  S1))
set_option maxHeartbeats 4000000 in
set_option maxRecDepth 100000 in
theorem cX3_moveWithOthers_C (l : Launch) (D : va_G) (cA : Nat → ClassId) (q : Nat → Nat) (S : ty_S) (x1 : Int32) (x2 : Int32) (K : ty_S → Prop) (h : eX3_moveWithOthers S x1 x2 K) : ∀ sz, Met l yX3_moveWithOthers wsX3_moveWithOthers rX3_moveWithOthers (ty_Pc D cA q ty_LY S sz [.ref (q 1), .int x1, .int x2]) (ty_Qv D cA q ty_LY sz K) 0 0 (ty_A q ty_LY.length sz) := by
  refine ty_ofM (ret := none) (maxL := 6) (cc := cX3_moveWithOthers) (own := RX3) (Qc := fun sz => ty_Qv D cA q ty_LY sz K) (by decide +kernel) rfl (Nat.le_of_ble_eq_true rfl) rfl ?_
  intro p e s m args below meth c ls X hl Y
  have hx := X.1.1
  have hb := X.1.2.1
  have hl : lv_has ls 6 [(0, .ref (q 1)), (1, .int x1), (2, .int x2)] := hl
  unfold eX3_moveWithOthers at h
  refine lv_aload_n hx hb dX3_moveWithOthers_0 rfl (lv_at hl 0 rfl) ?_
  refine lv_iload_n hx hb dX3_moveWithOthers_1 rfl (lv_at hl 1 rfl) ?_
  refine lv_iload_n hx hb dX3_moveWithOthers_2 rfl (lv_at hl 2 rfl) ?_
  refine ty_Vv (As := [.int x1, .int x2]) (b := 1) (rest := []) X Y (cX3_moveOne_C l D cA q S x1 x2 _ h) rfl rfl (fun hts => cwV 2 hts gX3_moveWithOthers_X3_moveOne rfl rfl rfl (by decide +kernel) ⟨Nat.le_of_ble_eq_true rfl, Nat.le_of_ble_eq_true rfl⟩) rfl hl.1 (Nat.le_of_ble_eq_true rfl) dX3_moveWithOthers_3 ⟨Nat.zero_le _, Nat.zero_le _⟩ (fun S1 H locs h Y => ?_)
  obtain ⟨n9, h⟩ := h
  exact wlX3_moveWithOthers_6 X  n9 _ _ _ _ h Y (lv_sub hl [0] rfl)

abbrev rX3_moveHeld : Room := { frames := 5, cells := 0, slots := 0, locals := 124 }
theorem kX3_moveHeld_0 : Cond.fieldLink RX3 25 "TrainYard$Yard" "held" "[I" ∈ wsX3_moveHeld := ty_m 1 (by decide +kernel)
theorem kX3_moveHeld_1 : Cond.fieldLink RX3 21 "TrainYard$Yard" "row" "LTrainYard$Row;" ∈ wsX3_moveHeld := ty_m 2 (by decide +kernel)
theorem iX3_moveHeld_X3 : ∀ w ∈ wsX30, w ∈ wsX3_moveHeld := ty_inp _ [125, 126, 127, 128, 129, 130, 131, 132, 133, 134, 135, 136, 137] (by decide +kernel)
def jX3_moveHeld_40 (K : ty_S → Prop) (R2 : Int32 → Int32 → ty_S → Prop) (x1 : Int32) (x2 : Int32) (S : ty_S) : Prop :=
  (vp_in x2 16 ∧ (eX1_lastTrain S  (fun S3 r3 => (eX3_moveWithOthers S3 (S 7 x2.toNatClampNeg) r3 (fun S4 => R2 x1 (x2 + (1 : Int32)) S4)))))
set_option maxHeartbeats 4000000 in
set_option maxRecDepth 100000 in
theorem wjX3_moveHeld_40 {p : Program} {l : Launch} {e : Env} {s : State} {m : MethodId} {args : Array Value} {below : List Frame} {meth : Method} {c : Code} {D : va_G} {cA : Nat → ClassId} {q : Nat → Nat} {K : ty_S → Prop} {R2 : Int32 → Int32 → ty_S → Prop} (X : ty_X D cA p s m args meth c cX3_moveHeld 3 none wsX3_moveHeld RX3) (hR2 : ∀ (x1 : Int32) (x2 : Int32) (S : ty_S) (H : Heap) (locs : List Loc) (ls : Array Slot), R2 x1 x2 S → ty_Y D cA q ty_LY S s H locs → lv_has ls 3 [(0, .ref (q 1)), (1, .int x1), (2, .int x2)] → W p l e rX3_moveHeld s m args below meth c H locs 0 0 (ty_MV D cA q ty_LY K below args s) (F0 m 2 ls [])) (x1 : Int32) (x2 : Int32) (S : ty_S) (H : Heap) (locs : List Loc) (ls : Array Slot) (h : jX3_moveHeld_40 K R2 x1 x2 S) (Y : ty_Y D cA q ty_LY S s H locs) (hl : lv_has ls 3 [(0, .ref (q 1)), (1, .int x1), (2, .int x2)]) : W p l e rX3_moveHeld s m args below meth c H locs 0 0 (ty_MV D cA q ty_LY K below args s) (F0 m 40 ls []) := by
  have hx := X.1.1
  have hb := X.1.2.1
  unfold jX3_moveHeld_40 at h
  refine lv_aload_n hx hb dX3_moveHeld_40 rfl (lv_at hl 0 rfl) ?_
  refine lv_aload_n hx hb dX3_moveHeld_41 rfl (lv_at hl 0 rfl) ?_
  refine tg_X3_held X Y iX3_moveHeld_X3 kX3_moveHeld_0 dX3_moveHeld_42 ?_
  refine lv_iload_n hx hb dX3_moveHeld_45 rfl (lv_at hl 2 rfl) ?_
  refine ty_iald (v := (S 7 x2.toNatClampNeg)) X Y 5 16 7 rfl h.1 rfl dX3_moveHeld_46 ?_
  have h := h.2
  refine lv_aload_n hx hb dX3_moveHeld_47 rfl (lv_at hl 0 rfl) ?_
  refine tg_X3_row X Y iX3_moveHeld_X3 kX3_moveHeld_1 dX3_moveHeld_48 ?_
  refine ty_Vi (As := []) (b := 4) (rest := [.int (S 7 x2.toNatClampNeg), .ref (q 1)]) X Y (cX1_lastTrain_C l D cA q S  _ h) rfl rfl (fun hts => cwV 0 hts gX3_moveHeld_X1_lastTrain rfl rfl rfl (by decide +kernel) ⟨Nat.le_of_ble_eq_true rfl, Nat.le_of_ble_eq_true rfl⟩) rfl hl.1 (Nat.le_of_ble_eq_true rfl) dX3_moveHeld_51 ⟨Nat.zero_le _, Nat.zero_le _⟩ (fun r3 S3 H locs h Y => ?_)
  refine ty_Vv (As := [.int (S 7 x2.toNatClampNeg), .int r3]) (b := 1) (rest := []) X Y (cX3_moveWithOthers_C l D cA q S3 (S 7 x2.toNatClampNeg) r3 _ h) rfl rfl (fun hts => cwV 2 hts gX3_moveHeld_X3_moveWithOthers rfl rfl rfl (by decide +kernel) ⟨Nat.le_of_ble_eq_true rfl, Nat.le_of_ble_eq_true rfl⟩) rfl hl.1 (Nat.le_of_ble_eq_true rfl) dX3_moveHeld_54 ⟨Nat.zero_le _, Nat.zero_le _⟩ (fun S4 H locs h Y => ?_)
  refine lv_iinc (v := (x2 + (1 : Int32))) (lv' := [(2, .int (x2 + (1 : Int32))), (0, .ref (q 1)), (1, .int x1)]) hx hb dX3_moveHeld_57 hl (k := 2) rfl rfl (by decide) rfl (fun ls hl => ?_)
  refine lv_goto (tgt := 2) hx hb dX3_moveHeld_60 (by decide) ?_
  exact hR2 _ _ _ _ _ _ h Y (lv_sub hl [1, 2, 0] rfl)
def lX3_moveHeld_2 (K : ty_S → Prop)  : Nat → Int32 → Int32 → ty_S → Prop
  | 0, _, _, _ => False
  | n + 1, x1, x2, S => (if (16 : Int32) ≤ x2 then K S else (vp_in x2 16 ∧ (eX3_isStillThere S (S 7 x2.toNatClampNeg) (fun S1 r1 => (if r1 = (0 : Int32) then lX3_moveHeld_2 K  n x1 (x2 + (1 : Int32)) S1 else (eX1_lastTrain S1  (fun S2 r2 => (if r2 = x1 then (eX1_addTrain S2  (fun S5 r5 => jX3_moveHeld_40 K (fun a0 a1 S9 => lX3_moveHeld_2 K  n a0 a1 S9) x1 x2 S5)) else jX3_moveHeld_40 K (fun a0 a1 S9 => lX3_moveHeld_2 K  n a0 a1 S9) x1 x2 S2))))))))
set_option maxHeartbeats 4000000 in
set_option maxRecDepth 100000 in
theorem wlX3_moveHeld_2 {p : Program} {l : Launch} {e : Env} {s : State} {m : MethodId} {args : Array Value} {below : List Frame} {meth : Method} {c : Code} {D : va_G} {cA : Nat → ClassId} {q : Nat → Nat} {K : ty_S → Prop}  (X : ty_X D cA p s m args meth c cX3_moveHeld 3 none wsX3_moveHeld RX3)  : ∀ (n : Nat) (x1 : Int32) (x2 : Int32) (S : ty_S) (H : Heap) (locs : List Loc) (ls : Array Slot), lX3_moveHeld_2 K  n x1 x2 S → ty_Y D cA q ty_LY S s H locs → lv_has ls 3 [(0, .ref (q 1)), (1, .int x1), (2, .int x2)] → W p l e rX3_moveHeld s m args below meth c H locs 0 0 (ty_MV D cA q ty_LY K below args s) (F0 m 2 ls []) := by
  have hx := X.1.1
  have hb := X.1.2.1
  intro n
  induction n with
  | zero =>
    intro x1 x2 S H locs ls h
    exact False.elim h
  | succ n ih =>
    intro x1 x2 S H locs ls h Y hl
    unfold lX3_moveHeld_2 at h
    refine lv_iload_n hx hb dX3_moveHeld_2 rfl (lv_at hl 2 rfl) ?_
    refine lv_bipush (v := (16 : Int32)) hx hb dX3_moveHeld_3 (by decide) ?_
    refine lv_icmp_ge (tgt := 63) hx hb dX3_moveHeld_5 (by decide) (fun c9 => ?_) (fun c9 => ?_)
    · have h := ty_t h c9
      exact ty_vret X Y h dX3_moveHeld_63
    · have h := ty_f h c9
      refine lv_aload_n hx hb dX3_moveHeld_8 rfl (lv_at hl 0 rfl) ?_
      refine lv_aload_n hx hb dX3_moveHeld_9 rfl (lv_at hl 0 rfl) ?_
      refine tg_X3_held X Y iX3_moveHeld_X3 kX3_moveHeld_0 dX3_moveHeld_10 ?_
      refine lv_iload_n hx hb dX3_moveHeld_13 rfl (lv_at hl 2 rfl) ?_
      refine ty_iald (v := (S 7 x2.toNatClampNeg)) X Y 5 16 7 rfl h.1 rfl dX3_moveHeld_14 ?_
      have h := h.2
      refine ty_Vi (As := [.int (S 7 x2.toNatClampNeg)]) (b := 1) (rest := []) X Y (cX3_isStillThere_C l D cA q S (S 7 x2.toNatClampNeg) _ h) rfl rfl (fun hts => cwV 1 hts gX3_moveHeld_X3_isStillThere rfl rfl rfl (by decide +kernel) ⟨Nat.le_of_ble_eq_true rfl, Nat.le_of_ble_eq_true rfl⟩) rfl hl.1 (Nat.le_of_ble_eq_true rfl) dX3_moveHeld_15 ⟨Nat.zero_le _, Nat.zero_le _⟩ (fun r1 S1 H locs h Y => ?_)
      refine lv_if_eq (tgt := 57) hx hb dX3_moveHeld_18 (by decide) (fun c9 => ?_) (fun c9 => ?_)
      · have h := ty_t h c9
        refine lv_iinc (v := (x2 + (1 : Int32))) (lv' := [(2, .int (x2 + (1 : Int32))), (0, .ref (q 1)), (1, .int x1)]) hx hb dX3_moveHeld_57 hl (k := 2) rfl rfl (by decide) rfl (fun ls hl => ?_)
        refine lv_goto (tgt := 2) hx hb dX3_moveHeld_60 (by decide) ?_
        exact ih _ _ _ _ _ _ h Y (lv_sub hl [1, 2, 0] rfl)
      · have h := ty_f h c9
        refine lv_aload_n hx hb dX3_moveHeld_21 rfl (lv_at hl 0 rfl) ?_
        refine tg_X3_row X Y iX3_moveHeld_X3 kX3_moveHeld_1 dX3_moveHeld_22 ?_
        refine ty_Vi (As := []) (b := 4) (rest := []) X Y (cX1_lastTrain_C l D cA q S1  _ h) rfl rfl (fun hts => cwV 0 hts gX3_moveHeld_X1_lastTrain rfl rfl rfl (by decide +kernel) ⟨Nat.le_of_ble_eq_true rfl, Nat.le_of_ble_eq_true rfl⟩) rfl hl.1 (Nat.le_of_ble_eq_true rfl) dX3_moveHeld_25 ⟨Nat.zero_le _, Nat.zero_le _⟩ (fun r2 S2 H locs h Y => ?_)
        refine lv_iload_n hx hb dX3_moveHeld_28 rfl (lv_at hl 1 rfl) ?_
        refine lv_icmp_ne (tgt := 40) hx hb dX3_moveHeld_29 (by decide) (fun c9 => ?_) (fun c9 => ?_)
        · have h := ty_f h c9
          exact wjX3_moveHeld_40 X ih _ _ _ _ _ _ h Y (lv_sub hl [0, 1, 2] rfl)
        · have h := ty_t h c9
          refine lv_aload_n hx hb dX3_moveHeld_32 rfl (lv_at hl 0 rfl) ?_
          refine tg_X3_row X Y iX3_moveHeld_X3 kX3_moveHeld_1 dX3_moveHeld_33 ?_
          refine ty_Vi (As := []) (b := 4) (rest := []) X Y (cX1_addTrain_C l D cA q S2  _ h) rfl rfl (fun hts => cwV 0 hts gX3_moveHeld_X1_addTrain rfl rfl rfl (by decide +kernel) ⟨Nat.le_of_ble_eq_true rfl, Nat.le_of_ble_eq_true rfl⟩) rfl hl.1 (Nat.le_of_ble_eq_true rfl) dX3_moveHeld_36 ⟨Nat.zero_le _, Nat.zero_le _⟩ (fun r5 S5 H locs h Y => ?_)
          refine lv_pop hx hb dX3_moveHeld_39 rfl ?_
          exact wjX3_moveHeld_40 X ih _ _ _ _ _ _ h Y (lv_sub hl [0, 1, 2] rfl)
def eX3_moveHeld (S : ty_S) (x1 : Int32) (K : ty_S → Prop) : Prop :=
  ∃ n9, lX3_moveHeld_2 K  n9 x1 (0 : Int32) S
set_option maxHeartbeats 4000000 in
set_option maxRecDepth 100000 in
theorem cX3_moveHeld_C (l : Launch) (D : va_G) (cA : Nat → ClassId) (q : Nat → Nat) (S : ty_S) (x1 : Int32) (K : ty_S → Prop) (h : eX3_moveHeld S x1 K) : ∀ sz, Met l yX3_moveHeld wsX3_moveHeld rX3_moveHeld (ty_Pc D cA q ty_LY S sz [.ref (q 1), .int x1]) (ty_Qv D cA q ty_LY sz K) 0 0 (ty_A q ty_LY.length sz) := by
  refine ty_ofM (ret := none) (maxL := 3) (cc := cX3_moveHeld) (own := RX3) (Qc := fun sz => ty_Qv D cA q ty_LY sz K) (by decide +kernel) rfl (Nat.le_of_ble_eq_true rfl) rfl ?_
  intro p e s m args below meth c ls X hl Y
  have hx := X.1.1
  have hb := X.1.2.1
  have hl : lv_has ls 3 [(0, .ref (q 1)), (1, .int x1)] := hl
  unfold eX3_moveHeld at h
  refine lv_iconst (v := (0 : Int32)) hx hb dX3_moveHeld_0 (by decide) ?_
  refine lv_istore_n (lv' := [(2, .int (0 : Int32)), (0, .ref (q 1)), (1, .int x1)]) hx hb dX3_moveHeld_1 rfl hl (by decide) rfl (fun ls hl => ?_)
  obtain ⟨n9, h⟩ := h
  exact wlX3_moveHeld_2 X  n9 _ _ _ _ _ _ h Y (lv_sub hl [1, 2, 0] rfl)

abbrev rX3_moveReferredTo : Room := { frames := 5, cells := 0, slots := 0, locals := 124 }
theorem kX3_moveReferredTo_0 : Cond.fieldLink RX3 12 "TrainYard$Yard" "freight" "LTrainYard$Freight;" ∈ wsX3_moveReferredTo := ty_m 1 (by decide +kernel)
theorem kX3_moveReferredTo_1 : Cond.fieldLink RX3 21 "TrainYard$Yard" "row" "LTrainYard$Row;" ∈ wsX3_moveReferredTo := ty_m 2 (by decide +kernel)
theorem kX3_moveReferredTo_2 : Cond.fieldLink RX3 45 "TrainYard$Yard" "emptied" "I" ∈ wsX3_moveReferredTo := ty_m 3 (by decide +kernel)
theorem kX3_moveReferredTo_3 : Cond.initialized yX4_carOf.cls ∈ wsX3_moveReferredTo := ty_m 12 (by decide +kernel)
theorem kX3_moveReferredTo_4 : Cond.static yX4_carOf ∈ wsX3_moveReferredTo := ty_m 11 (by decide +kernel)
theorem iX3_moveReferredTo_X3 : ∀ w ∈ wsX30, w ∈ wsX3_moveReferredTo := ty_inp _ [116, 117, 118, 119, 120, 121, 122, 123, 124, 125, 126, 127, 128] (by decide +kernel)
def jX3_moveReferredTo_71 (K : ty_S → Prop) (R9 : Int32 → Int32 → Int32 → ty_S → Prop) (x1 : Int32) (x2 : Int32) (x3 : Int32) (S : ty_S) : Prop :=
  (eX0_nextReference S (x3 + (1 : Int32)) (fun S4 r4 => R9 x1 x2 r4 S4))
set_option maxHeartbeats 4000000 in
set_option maxRecDepth 100000 in
theorem wjX3_moveReferredTo_71 {p : Program} {l : Launch} {e : Env} {s : State} {m : MethodId} {args : Array Value} {below : List Frame} {meth : Method} {c : Code} {D : va_G} {cA : Nat → ClassId} {q : Nat → Nat} {K : ty_S → Prop} {R9 : Int32 → Int32 → Int32 → ty_S → Prop} (X : ty_X D cA p s m args meth c cX3_moveReferredTo 6 none wsX3_moveReferredTo RX3) (hR9 : ∀ (x1 : Int32) (x2 : Int32) (x3 : Int32) (S : ty_S) (H : Heap) (locs : List Loc) (ls : Array Slot), R9 x1 x2 x3 S → ty_Y D cA q ty_LY S s H locs → lv_has ls 6 [(0, .ref (q 1)), (1, .int x1), (2, .int x2), (3, .int x3)] → W p l e rX3_moveReferredTo s m args below meth c H locs 0 0 (ty_MV D cA q ty_LY K below args s) (F0 m 9 ls [])) (x1 : Int32) (x2 : Int32) (x3 : Int32) (S : ty_S) (H : Heap) (locs : List Loc) (ls : Array Slot) (h : jX3_moveReferredTo_71 K R9 x1 x2 x3 S) (Y : ty_Y D cA q ty_LY S s H locs) (hl : lv_has ls 6 [(0, .ref (q 1)), (1, .int x1), (2, .int x2), (3, .int x3)]) : W p l e rX3_moveReferredTo s m args below meth c H locs 0 0 (ty_MV D cA q ty_LY K below args s) (F0 m 71 ls []) := by
  have hx := X.1.1
  have hb := X.1.2.1
  unfold jX3_moveReferredTo_71 at h
  refine lv_aload_n hx hb dX3_moveReferredTo_71 rfl (lv_at hl 0 rfl) ?_
  refine tg_X3_freight X Y iX3_moveReferredTo_X3 kX3_moveReferredTo_0 dX3_moveReferredTo_72 ?_
  refine lv_iload_n hx hb dX3_moveReferredTo_75 rfl (lv_at hl 3 rfl) ?_
  refine lv_iconst (v := (1 : Int32)) hx hb dX3_moveReferredTo_76 (by decide) ?_
  refine lv_iadd hx hb dX3_moveReferredTo_77 ?_
  refine ty_Vi (As := [.int (x3 + (1 : Int32))]) (b := 3) (rest := []) X Y (cX0_nextReference_C l D cA q S (x3 + (1 : Int32)) _ h) rfl rfl (fun hts => cwV 1 hts gX3_moveReferredTo_X0_nextReference rfl rfl rfl (by decide +kernel) ⟨Nat.le_of_ble_eq_true rfl, Nat.le_of_ble_eq_true rfl⟩) rfl hl.1 (Nat.le_of_ble_eq_true rfl) dX3_moveReferredTo_78 ⟨Nat.zero_le _, Nat.zero_le _⟩ (fun r4 S4 H locs h Y => ?_)
  refine lv_istore_n (lv' := [(3, .int r4), (0, .ref (q 1)), (1, .int x1), (2, .int x2)]) hx hb dX3_moveReferredTo_81 rfl hl (by decide) rfl (fun ls hl => ?_)
  refine lv_goto (tgt := 9) hx hb dX3_moveReferredTo_82 (by decide) ?_
  exact hR9 _ _ _ _ _ _ _ h Y (lv_sub hl [1, 2, 3, 0] rfl)
def jX3_moveReferredTo_53 (K : ty_S → Prop) (R9 : Int32 → Int32 → Int32 → ty_S → Prop) (x1 : Int32) (x2 : Int32) (x3 : Int32) (x5 : Int32) (t0 : Int32) (S : ty_S) : Prop :=
  (if t0 = x2 then (eX0_at S x3 (fun S5 r5 => (eX3_moveWithOthers S5 r5 x5 (fun S6 => jX3_moveReferredTo_71 K R9 x1 x2 x3 S6)))) else jX3_moveReferredTo_71 K R9 x1 x2 x3 S)
set_option maxHeartbeats 4000000 in
set_option maxRecDepth 100000 in
theorem wjX3_moveReferredTo_53 {p : Program} {l : Launch} {e : Env} {s : State} {m : MethodId} {args : Array Value} {below : List Frame} {meth : Method} {c : Code} {D : va_G} {cA : Nat → ClassId} {q : Nat → Nat} {K : ty_S → Prop} {R9 : Int32 → Int32 → Int32 → ty_S → Prop} (X : ty_X D cA p s m args meth c cX3_moveReferredTo 6 none wsX3_moveReferredTo RX3) (hR9 : ∀ (x1 : Int32) (x2 : Int32) (x3 : Int32) (S : ty_S) (H : Heap) (locs : List Loc) (ls : Array Slot), R9 x1 x2 x3 S → ty_Y D cA q ty_LY S s H locs → lv_has ls 6 [(0, .ref (q 1)), (1, .int x1), (2, .int x2), (3, .int x3)] → W p l e rX3_moveReferredTo s m args below meth c H locs 0 0 (ty_MV D cA q ty_LY K below args s) (F0 m 9 ls [])) (x1 : Int32) (x2 : Int32) (x3 : Int32) (x5 : Int32) (t0 : Int32) (S : ty_S) (H : Heap) (locs : List Loc) (ls : Array Slot) (h : jX3_moveReferredTo_53 K R9 x1 x2 x3 x5 t0 S) (Y : ty_Y D cA q ty_LY S s H locs) (hl : lv_has ls 6 [(0, .ref (q 1)), (1, .int x1), (2, .int x2), (3, .int x3), (5, .int x5)]) : W p l e rX3_moveReferredTo s m args below meth c H locs 0 0 (ty_MV D cA q ty_LY K below args s) (F0 m 53 ls [.int t0]) := by
  have hx := X.1.1
  have hb := X.1.2.1
  unfold jX3_moveReferredTo_53 at h
  refine lv_iload_n hx hb dX3_moveReferredTo_53 rfl (lv_at hl 2 rfl) ?_
  refine lv_icmp_ne (tgt := 71) hx hb dX3_moveReferredTo_54 (by decide) (fun c9 => ?_) (fun c9 => ?_)
  · have h := ty_f h c9
    exact wjX3_moveReferredTo_71 X hR9 _ _ _ _ _ _ _ h Y (lv_sub hl [0, 1, 2, 3] rfl)
  · have h := ty_t h c9
    refine lv_aload_n hx hb dX3_moveReferredTo_57 rfl (lv_at hl 0 rfl) ?_
    refine lv_aload_n hx hb dX3_moveReferredTo_58 rfl (lv_at hl 0 rfl) ?_
    refine tg_X3_freight X Y iX3_moveReferredTo_X3 kX3_moveReferredTo_0 dX3_moveReferredTo_59 ?_
    refine lv_iload_n hx hb dX3_moveReferredTo_62 rfl (lv_at hl 3 rfl) ?_
    refine ty_Vi (As := [.int x3]) (b := 3) (rest := [.ref (q 1)]) X Y (cX0_at_C l D cA q S x3 _ h) rfl rfl (fun hts => cwV 1 hts gX3_moveReferredTo_X0_at rfl rfl rfl (by decide +kernel) ⟨Nat.le_of_ble_eq_true rfl, Nat.le_of_ble_eq_true rfl⟩) rfl hl.1 (Nat.le_of_ble_eq_true rfl) dX3_moveReferredTo_63 ⟨Nat.zero_le _, Nat.zero_le _⟩ (fun r5 S5 H locs h Y => ?_)
    refine lv_iload hx hb dX3_moveReferredTo_66 (lv_at hl 4 rfl) ?_
    refine ty_Vv (As := [.int r5, .int x5]) (b := 1) (rest := []) X Y (cX3_moveWithOthers_C l D cA q S5 r5 x5 _ h) rfl rfl (fun hts => cwV 2 hts gX3_moveReferredTo_X3_moveWithOthers rfl rfl rfl (by decide +kernel) ⟨Nat.le_of_ble_eq_true rfl, Nat.le_of_ble_eq_true rfl⟩) rfl hl.1 (Nat.le_of_ble_eq_true rfl) dX3_moveReferredTo_68 ⟨Nat.zero_le _, Nat.zero_le _⟩ (fun S6 H locs h Y => ?_)
    exact wjX3_moveReferredTo_71 X hR9 _ _ _ _ _ _ _ h Y (lv_sub hl [0, 1, 2, 3] rfl)
def lX3_moveReferredTo_9 (K : ty_S → Prop)  : Nat → Int32 → Int32 → Int32 → ty_S → Prop
  | 0, _, _, _, _ => False
  | n + 1, x1, x2, x3, S => (if (1280 : Int32) ≤ x3 then K S else (eX4_carOf S x3 (fun S2 r2 => (eX1_trainOf S2 r2 (fun S3 r3 => (if r2 = (S3 20 0) then jX3_moveReferredTo_71 K (fun a0 a1 a2 S9 => lX3_moveReferredTo_9 K  n a0 a1 a2 S9) x1 x2 x3 S3 else (if r3 = x1 then jX3_moveReferredTo_53 K (fun a0 a1 a2 S9 => lX3_moveReferredTo_9 K  n a0 a1 a2 S9) x1 x2 x3 r3 (1 : Int32) S3 else jX3_moveReferredTo_53 K (fun a0 a1 a2 S9 => lX3_moveReferredTo_9 K  n a0 a1 a2 S9) x1 x2 x3 r3 (0 : Int32) S3)))))))
set_option maxHeartbeats 4000000 in
set_option maxRecDepth 100000 in
theorem wlX3_moveReferredTo_9 {p : Program} {l : Launch} {e : Env} {s : State} {m : MethodId} {args : Array Value} {below : List Frame} {meth : Method} {c : Code} {D : va_G} {cA : Nat → ClassId} {q : Nat → Nat} {K : ty_S → Prop}  (X : ty_X D cA p s m args meth c cX3_moveReferredTo 6 none wsX3_moveReferredTo RX3)  : ∀ (n : Nat) (x1 : Int32) (x2 : Int32) (x3 : Int32) (S : ty_S) (H : Heap) (locs : List Loc) (ls : Array Slot), lX3_moveReferredTo_9 K  n x1 x2 x3 S → ty_Y D cA q ty_LY S s H locs → lv_has ls 6 [(0, .ref (q 1)), (1, .int x1), (2, .int x2), (3, .int x3)] → W p l e rX3_moveReferredTo s m args below meth c H locs 0 0 (ty_MV D cA q ty_LY K below args s) (F0 m 9 ls []) := by
  have hx := X.1.1
  have hb := X.1.2.1
  intro n
  induction n with
  | zero =>
    intro x1 x2 x3 S H locs ls h
    exact False.elim h
  | succ n ih =>
    intro x1 x2 x3 S H locs ls h Y hl
    unfold lX3_moveReferredTo_9 at h
    refine lv_iload_n hx hb dX3_moveReferredTo_9 rfl (lv_at hl 3 rfl) ?_
    refine lv_sipush (v := (1280 : Int32)) hx hb dX3_moveReferredTo_10 (by decide) ?_
    refine lv_icmp_ge (tgt := 85) hx hb dX3_moveReferredTo_13 (by decide) (fun c9 => ?_) (fun c9 => ?_)
    · have h := ty_t h c9
      exact ty_vret X Y h dX3_moveReferredTo_85
    · have h := ty_f h c9
      refine lv_iload_n hx hb dX3_moveReferredTo_16 rfl (lv_at hl 3 rfl) ?_
      refine ty_SNi (As := [.int x3]) (rest := []) X Y (cX4_carOf_C l D cA q S x3 _ h) (fun hts hN => ty_cwSN 1 hts hN gX3_moveReferredTo_X4_carOf_n82 rfl (ty_m 14 rfl) kX3_moveReferredTo_3 kX3_moveReferredTo_4 rfl rfl (by decide +kernel) ⟨Nat.le_of_ble_eq_true rfl, Nat.le_of_ble_eq_true rfl⟩) rfl hl.1 (Nat.le_of_ble_eq_true rfl) dX3_moveReferredTo_17 ⟨Nat.zero_le _, Nat.zero_le _⟩ (fun r2 S2 H locs h Y => ?_)
      refine lv_istore (lv' := [(4, .int r2), (0, .ref (q 1)), (1, .int x1), (2, .int x2), (3, .int x3)]) hx hb dX3_moveReferredTo_20 hl (by decide) rfl (fun ls hl => ?_)
      refine lv_aload_n hx hb dX3_moveReferredTo_22 rfl (lv_at hl 1 rfl) ?_
      refine tg_X3_row X Y iX3_moveReferredTo_X3 kX3_moveReferredTo_1 dX3_moveReferredTo_23 ?_
      refine lv_iload hx hb dX3_moveReferredTo_26 (lv_at hl 0 rfl) ?_
      refine ty_Vi (As := [.int r2]) (b := 4) (rest := []) X Y (cX1_trainOf_C l D cA q S2 r2 _ h) rfl rfl (fun hts => cwV 1 hts gX3_moveReferredTo_X1_trainOf rfl rfl rfl (by decide +kernel) ⟨Nat.le_of_ble_eq_true rfl, Nat.le_of_ble_eq_true rfl⟩) rfl hl.1 (Nat.le_of_ble_eq_true rfl) dX3_moveReferredTo_28 ⟨Nat.zero_le _, Nat.zero_le _⟩ (fun r3 S3 H locs h Y => ?_)
      refine lv_istore (lv' := [(5, .int r3), (4, .int r2), (0, .ref (q 1)), (1, .int x1), (2, .int x2), (3, .int x3)]) hx hb dX3_moveReferredTo_31 hl (by decide) rfl (fun ls hl => ?_)
      refine lv_iload hx hb dX3_moveReferredTo_33 (lv_at hl 1 rfl) ?_
      refine lv_aload_n hx hb dX3_moveReferredTo_35 rfl (lv_at hl 2 rfl) ?_
      refine tg_X3_emptied (v := (S3 20 0)) X Y iX3_moveReferredTo_X3 kX3_moveReferredTo_2 rfl dX3_moveReferredTo_36 ?_
      refine lv_icmp_eq (tgt := 71) hx hb dX3_moveReferredTo_39 (by decide) (fun c9 => ?_) (fun c9 => ?_)
      · have h := ty_t h c9
        exact wjX3_moveReferredTo_71 X ih _ _ _ _ _ _ _ h Y (lv_sub hl [2, 3, 4, 5] rfl)
      · have h := ty_f h c9
        refine lv_iload hx hb dX3_moveReferredTo_42 (lv_at hl 0 rfl) ?_
        refine lv_iload_n hx hb dX3_moveReferredTo_44 rfl (lv_at hl 3 rfl) ?_
        refine lv_icmp_ne (tgt := 52) hx hb dX3_moveReferredTo_45 (by decide) (fun c9 => ?_) (fun c9 => ?_)
        · have h := ty_f h c9
          refine lv_iconst (v := (0 : Int32)) hx hb dX3_moveReferredTo_52 (by decide) ?_
          exact wjX3_moveReferredTo_53 X ih _ _ _ _ _ _ _ _ _ h Y (lv_sub hl [2, 3, 4, 5, 0] rfl)
        · have h := ty_t h c9
          refine lv_iconst (v := (1 : Int32)) hx hb dX3_moveReferredTo_48 (by decide) ?_
          refine lv_goto (tgt := 53) hx hb dX3_moveReferredTo_49 (by decide) ?_
          exact wjX3_moveReferredTo_53 X ih _ _ _ _ _ _ _ _ _ h Y (lv_sub hl [2, 3, 4, 5, 0] rfl)
def eX3_moveReferredTo (S : ty_S) (x1 : Int32) (x2 : Int32) (K : ty_S → Prop) : Prop :=
  (eX0_nextReference S (0 : Int32) (fun S1 r1 => ∃ n9, lX3_moveReferredTo_9 K  n9 x1 x2 r1 S1))
set_option maxHeartbeats 4000000 in
set_option maxRecDepth 100000 in
theorem cX3_moveReferredTo_C (l : Launch) (D : va_G) (cA : Nat → ClassId) (q : Nat → Nat) (S : ty_S) (x1 : Int32) (x2 : Int32) (K : ty_S → Prop) (h : eX3_moveReferredTo S x1 x2 K) : ∀ sz, Met l yX3_moveReferredTo wsX3_moveReferredTo rX3_moveReferredTo (ty_Pc D cA q ty_LY S sz [.ref (q 1), .int x1, .int x2]) (ty_Qv D cA q ty_LY sz K) 0 0 (ty_A q ty_LY.length sz) := by
  refine ty_ofM (ret := none) (maxL := 6) (cc := cX3_moveReferredTo) (own := RX3) (Qc := fun sz => ty_Qv D cA q ty_LY sz K) (by decide +kernel) rfl (Nat.le_of_ble_eq_true rfl) rfl ?_
  intro p e s m args below meth c ls X hl Y
  have hx := X.1.1
  have hb := X.1.2.1
  have hl : lv_has ls 6 [(0, .ref (q 1)), (1, .int x1), (2, .int x2)] := hl
  unfold eX3_moveReferredTo at h
  refine lv_aload_n hx hb dX3_moveReferredTo_0 rfl (lv_at hl 0 rfl) ?_
  refine tg_X3_freight X Y iX3_moveReferredTo_X3 kX3_moveReferredTo_0 dX3_moveReferredTo_1 ?_
  refine lv_iconst (v := (0 : Int32)) hx hb dX3_moveReferredTo_4 (by decide) ?_
  refine ty_Vi (As := [.int (0 : Int32)]) (b := 3) (rest := []) X Y (cX0_nextReference_C l D cA q S (0 : Int32) _ h) rfl rfl (fun hts => cwV 1 hts gX3_moveReferredTo_X0_nextReference rfl rfl rfl (by decide +kernel) ⟨Nat.le_of_ble_eq_true rfl, Nat.le_of_ble_eq_true rfl⟩) rfl hl.1 (Nat.le_of_ble_eq_true rfl) dX3_moveReferredTo_5 ⟨Nat.zero_le _, Nat.zero_le _⟩ (fun r1 S1 H locs h Y => ?_)
  refine lv_istore_n (lv' := [(3, .int r1), (0, .ref (q 1)), (1, .int x1), (2, .int x2)]) hx hb dX3_moveReferredTo_8 rfl hl (by decide) rfl (fun ls hl => ?_)
  obtain ⟨n9, h⟩ := h
  exact wlX3_moveReferredTo_9 X  n9 _ _ _ _ _ _ _ h Y (lv_sub hl [1, 2, 3, 0] rfl)

abbrev rX3_placeNow : Room := { frames := 2, cells := 0, slots := 0, locals := 40 }
theorem kX3_placeNow_0 : Cond.fieldLink RX3 45 "TrainYard$Yard" "emptied" "I" ∈ wsX3_placeNow := ty_m 1 (by decide +kernel)
theorem kX3_placeNow_1 : Cond.fieldLink RX3 48 "TrainYard$Yard" "newPlaces" "[I" ∈ wsX3_placeNow := ty_m 2 (by decide +kernel)
theorem kX3_placeNow_2 : Cond.initialized yX4_carOf.cls ∈ wsX3_placeNow := ty_m 4 (by decide +kernel)
theorem kX3_placeNow_3 : Cond.static yX4_carOf ∈ wsX3_placeNow := ty_m 3 (by decide +kernel)
theorem iX3_placeNow_X3 : ∀ w ∈ wsX30, w ∈ wsX3_placeNow := ty_inp _ [9, 10, 11, 12, 13, 14, 15, 16, 17, 18, 19, 20, 21] (by decide +kernel)
def eX3_placeNow (S : ty_S) (x1 : Int32) (K : ty_S → Int32 → Prop) : Prop :=
  (if x1 < (0 : Int32) then K S x1 else (eX4_carOf S x1 (fun S1 r1 => (if r1 = (S1 20 0) then (vp_in (x1 - x1 / (32 : Int32) * (32 : Int32)) 32 ∧ K S1 (S1 8 (x1 - x1 / (32 : Int32) * (32 : Int32)).toNatClampNeg)) else K S1 x1))))
set_option maxHeartbeats 4000000 in
set_option maxRecDepth 100000 in
theorem cX3_placeNow_C (l : Launch) (D : va_G) (cA : Nat → ClassId) (q : Nat → Nat) (S : ty_S) (x1 : Int32) (K : ty_S → Int32 → Prop) (h : eX3_placeNow S x1 K) : ∀ sz, Met l yX3_placeNow wsX3_placeNow rX3_placeNow (ty_Pc D cA q ty_LY S sz [.ref (q 1), .int x1]) (ty_Qi D cA q ty_LY sz K) 0 0 (ty_A q ty_LY.length sz) := by
  refine ty_ofM (ret := (some .int)) (maxL := 2) (cc := cX3_placeNow) (own := RX3) (Qc := fun sz => ty_Qi D cA q ty_LY sz K) (by decide +kernel) rfl (Nat.le_of_ble_eq_true rfl) rfl ?_
  intro p e s m args below meth c ls X hl Y
  have hx := X.1.1
  have hb := X.1.2.1
  have hl : lv_has ls 2 [(0, .ref (q 1)), (1, .int x1)] := hl
  unfold eX3_placeNow at h
  refine lv_iload_n hx hb dX3_placeNow_0 rfl (lv_at hl 1 rfl) ?_
  refine lv_if_lt (tgt := 27) hx hb dX3_placeNow_1 (by decide) (fun c9 => ?_) (fun c9 => ?_)
  · have h := ty_t h c9
    refine lv_iload_n hx hb dX3_placeNow_27 rfl (lv_at hl 1 rfl) ?_
    exact ty_iret X Y h dX3_placeNow_28
  · have h := ty_f h c9
    refine lv_iload_n hx hb dX3_placeNow_4 rfl (lv_at hl 1 rfl) ?_
    refine ty_SNi (As := [.int x1]) (rest := []) X Y (cX4_carOf_C l D cA q S x1 _ h) (fun hts hN => ty_cwSN 1 hts hN gX3_placeNow_X4_carOf_n82 rfl (ty_m 14 rfl) kX3_placeNow_2 kX3_placeNow_3 rfl rfl (by decide +kernel) ⟨Nat.le_of_ble_eq_true rfl, Nat.le_of_ble_eq_true rfl⟩) rfl hl.1 (Nat.le_of_ble_eq_true rfl) dX3_placeNow_5 ⟨Nat.zero_le _, Nat.zero_le _⟩ (fun r1 S1 H locs h Y => ?_)
    refine lv_aload_n hx hb dX3_placeNow_8 rfl (lv_at hl 0 rfl) ?_
    refine tg_X3_emptied (v := (S1 20 0)) X Y iX3_placeNow_X3 kX3_placeNow_0 rfl dX3_placeNow_9 ?_
    refine lv_icmp_ne (tgt := 27) hx hb dX3_placeNow_12 (by decide) (fun c9 => ?_) (fun c9 => ?_)
    · have h := ty_f h c9
      refine lv_iload_n hx hb dX3_placeNow_27 rfl (lv_at hl 1 rfl) ?_
      exact ty_iret X Y h dX3_placeNow_28
    · have h := ty_t h c9
      refine lv_aload_n hx hb dX3_placeNow_15 rfl (lv_at hl 0 rfl) ?_
      refine tg_X3_newPlaces X Y iX3_placeNow_X3 kX3_placeNow_1 dX3_placeNow_16 ?_
      refine lv_iload_n hx hb dX3_placeNow_19 rfl (lv_at hl 1 rfl) ?_
      refine lv_bipush (v := (32 : Int32)) hx hb dX3_placeNow_20 (by decide) ?_
      refine lv_irem hx hb dX3_placeNow_22 (by decide) ?_
      refine ty_iald (v := (S1 8 (x1 - x1 / (32 : Int32) * (32 : Int32)).toNatClampNeg)) X Y 6 32 8 rfl h.1 rfl dX3_placeNow_23 ?_
      have h := h.2
      refine lv_goto (tgt := 28) hx hb dX3_placeNow_24 (by decide) ?_
      exact ty_iret X Y h dX3_placeNow_28

abbrev rX3_endEmptying : Room := { frames := 3, cells := 0, slots := 0, locals := 61 }
theorem kX3_endEmptying_0 : Cond.fieldLink RX3 12 "TrainYard$Yard" "freight" "LTrainYard$Freight;" ∈ wsX3_endEmptying := ty_m 2 (by decide +kernel)
theorem kX3_endEmptying_1 : Cond.fieldLink RX3 45 "TrainYard$Yard" "emptied" "I" ∈ wsX3_endEmptying := ty_m 3 (by decide +kernel)
theorem kX3_endEmptying_2 : Cond.fieldLink RX3 21 "TrainYard$Yard" "row" "LTrainYard$Row;" ∈ wsX3_endEmptying := ty_m 4 (by decide +kernel)
theorem kX3_endEmptying_3 : Cond.fieldLink RX3 25 "TrainYard$Yard" "held" "[I" ∈ wsX3_endEmptying := ty_m 1 (by decide +kernel)
theorem iX3_endEmptying_X3 : ∀ w ∈ wsX30, w ∈ wsX3_endEmptying := ty_inp _ [52, 53, 54, 55, 56, 57, 58, 59, 60, 61, 62, 63, 64] (by decide +kernel)
def lX3_endEmptying_50 (K : ty_S → Prop)  : Nat → Int32 → ty_S → Prop
  | 0, _, _ => False
  | n + 1, x1, S => (if (1280 : Int32) ≤ x1 then (eX1_removeFirstCar S  (fun S3 => K (ty_st S3 20 0 (-1 : Int32)))) else (eX0_at S x1 (fun S4 r4 => (eX3_placeNow S4 r4 (fun S5 r5 => (eX0_write S5 x1 r5 (fun S6 => (eX0_nextReference S6 (x1 + (1 : Int32)) (fun S7 r7 => lX3_endEmptying_50 K  n r7 S7)))))))))
set_option maxHeartbeats 4000000 in
set_option maxRecDepth 100000 in
theorem wlX3_endEmptying_50 {p : Program} {l : Launch} {e : Env} {s : State} {m : MethodId} {args : Array Value} {below : List Frame} {meth : Method} {c : Code} {D : va_G} {cA : Nat → ClassId} {q : Nat → Nat} {K : ty_S → Prop}  (X : ty_X D cA p s m args meth c cX3_endEmptying 2 none wsX3_endEmptying RX3)  : ∀ (n : Nat) (x1 : Int32) (S : ty_S) (H : Heap) (locs : List Loc) (ls : Array Slot), lX3_endEmptying_50 K  n x1 S → ty_Y D cA q ty_LY S s H locs → lv_has ls 2 [(0, .ref (q 1)), (1, .int x1)] → W p l e rX3_endEmptying s m args below meth c H locs 0 0 (ty_MV D cA q ty_LY K below args s) (F0 m 50 ls []) := by
  have hx := X.1.1
  have hb := X.1.2.1
  intro n
  induction n with
  | zero =>
    intro x1 S H locs ls h
    exact False.elim h
  | succ n ih =>
    intro x1 S H locs ls h Y hl
    unfold lX3_endEmptying_50 at h
    refine lv_iload_n hx hb dX3_endEmptying_50 rfl (lv_at hl 1 rfl) ?_
    refine lv_sipush (v := (1280 : Int32)) hx hb dX3_endEmptying_51 (by decide) ?_
    refine lv_icmp_ge (tgt := 91) hx hb dX3_endEmptying_54 (by decide) (fun c9 => ?_) (fun c9 => ?_)
    · have h := ty_t h c9
      refine lv_aload_n hx hb dX3_endEmptying_91 rfl (lv_at hl 0 rfl) ?_
      refine tg_X3_row X Y iX3_endEmptying_X3 kX3_endEmptying_2 dX3_endEmptying_92 ?_
      refine ty_Vv (As := []) (b := 4) (rest := []) X Y (cX1_removeFirstCar_C l D cA q S  _ h) rfl rfl (fun hts => cwV 0 hts gX3_endEmptying_X1_removeFirstCar rfl rfl rfl (by decide +kernel) ⟨Nat.le_of_ble_eq_true rfl, Nat.le_of_ble_eq_true rfl⟩) rfl hl.1 (Nat.le_of_ble_eq_true rfl) dX3_endEmptying_95 ⟨Nat.zero_le _, Nat.zero_le _⟩ (fun S3 H locs h Y => ?_)
      refine lv_aload_n hx hb dX3_endEmptying_98 rfl (lv_at hl 0 rfl) ?_
      refine lv_iconst (v := (-1 : Int32)) hx hb dX3_endEmptying_99 (by decide) ?_
      refine tp_X3_emptied X Y iX3_endEmptying_X3 kX3_endEmptying_1 dX3_endEmptying_100 (fun H locs Y => ?_)
      exact ty_vret X Y h dX3_endEmptying_103
    · have h := ty_f h c9
      refine lv_aload_n hx hb dX3_endEmptying_57 rfl (lv_at hl 0 rfl) ?_
      refine tg_X3_freight X Y iX3_endEmptying_X3 kX3_endEmptying_0 dX3_endEmptying_58 ?_
      refine lv_iload_n hx hb dX3_endEmptying_61 rfl (lv_at hl 1 rfl) ?_
      refine lv_aload_n hx hb dX3_endEmptying_62 rfl (lv_at hl 0 rfl) ?_
      refine lv_aload_n hx hb dX3_endEmptying_63 rfl (lv_at hl 0 rfl) ?_
      refine tg_X3_freight X Y iX3_endEmptying_X3 kX3_endEmptying_0 dX3_endEmptying_64 ?_
      refine lv_iload_n hx hb dX3_endEmptying_67 rfl (lv_at hl 1 rfl) ?_
      refine ty_Vi (As := [.int x1]) (b := 3) (rest := [.ref (q 1), .int x1, .ref (q 3)]) X Y (cX0_at_C l D cA q S x1 _ h) rfl rfl (fun hts => cwV 1 hts gX3_endEmptying_X0_at rfl rfl rfl (by decide +kernel) ⟨Nat.le_of_ble_eq_true rfl, Nat.le_of_ble_eq_true rfl⟩) rfl hl.1 (Nat.le_of_ble_eq_true rfl) dX3_endEmptying_68 ⟨Nat.zero_le _, Nat.zero_le _⟩ (fun r4 S4 H locs h Y => ?_)
      refine ty_Vi (As := [.int r4]) (b := 1) (rest := [.int x1, .ref (q 3)]) X Y (cX3_placeNow_C l D cA q S4 r4 _ h) rfl rfl (fun hts => cwV 1 hts gX3_endEmptying_X3_placeNow rfl rfl rfl (by decide +kernel) ⟨Nat.le_of_ble_eq_true rfl, Nat.le_of_ble_eq_true rfl⟩) rfl hl.1 (Nat.le_of_ble_eq_true rfl) dX3_endEmptying_71 ⟨Nat.zero_le _, Nat.zero_le _⟩ (fun r5 S5 H locs h Y => ?_)
      refine ty_Vv (As := [.int x1, .int r5]) (b := 3) (rest := []) X Y (cX0_write_C l D cA q S5 x1 r5 _ h) rfl rfl (fun hts => cwV 2 hts gX3_endEmptying_X0_write rfl rfl rfl (by decide +kernel) ⟨Nat.le_of_ble_eq_true rfl, Nat.le_of_ble_eq_true rfl⟩) rfl hl.1 (Nat.le_of_ble_eq_true rfl) dX3_endEmptying_74 ⟨Nat.zero_le _, Nat.zero_le _⟩ (fun S6 H locs h Y => ?_)
      refine lv_aload_n hx hb dX3_endEmptying_77 rfl (lv_at hl 0 rfl) ?_
      refine tg_X3_freight X Y iX3_endEmptying_X3 kX3_endEmptying_0 dX3_endEmptying_78 ?_
      refine lv_iload_n hx hb dX3_endEmptying_81 rfl (lv_at hl 1 rfl) ?_
      refine lv_iconst (v := (1 : Int32)) hx hb dX3_endEmptying_82 (by decide) ?_
      refine lv_iadd hx hb dX3_endEmptying_83 ?_
      refine ty_Vi (As := [.int (x1 + (1 : Int32))]) (b := 3) (rest := []) X Y (cX0_nextReference_C l D cA q S6 (x1 + (1 : Int32)) _ h) rfl rfl (fun hts => cwV 1 hts gX3_endEmptying_X0_nextReference rfl rfl rfl (by decide +kernel) ⟨Nat.le_of_ble_eq_true rfl, Nat.le_of_ble_eq_true rfl⟩) rfl hl.1 (Nat.le_of_ble_eq_true rfl) dX3_endEmptying_84 ⟨Nat.zero_le _, Nat.zero_le _⟩ (fun r7 S7 H locs h Y => ?_)
      refine lv_istore_n (lv' := [(1, .int r7), (0, .ref (q 1))]) hx hb dX3_endEmptying_87 rfl hl (by decide) rfl (fun ls hl => ?_)
      refine lv_goto (tgt := 50) hx hb dX3_endEmptying_88 (by decide) ?_
      exact ih _ _ _ _ _ h Y (lv_sub hl [1, 0] rfl)
def lX3_endEmptying_2 (K : ty_S → Prop)  : Nat → Int32 → ty_S → Prop
  | 0, _, _ => False
  | n + 1, x1, S => (if (16 : Int32) ≤ x1 then (eX0_clear S (S 20 0) (fun S1 => (eX0_nextReference S1 (0 : Int32) (fun S2 r2 => ∃ n9, lX3_endEmptying_50 K  n9 r2 S2)))) else (vp_in x1 16 ∧ (eX3_placeNow S (S 7 x1.toNatClampNeg) (fun S8 r8 => (vp_in x1 16 ∧ lX3_endEmptying_2 K  n (x1 + (1 : Int32)) (ty_st S8 7 x1.toNatClampNeg r8))))))
set_option maxHeartbeats 4000000 in
set_option maxRecDepth 100000 in
theorem wlX3_endEmptying_2 {p : Program} {l : Launch} {e : Env} {s : State} {m : MethodId} {args : Array Value} {below : List Frame} {meth : Method} {c : Code} {D : va_G} {cA : Nat → ClassId} {q : Nat → Nat} {K : ty_S → Prop}  (X : ty_X D cA p s m args meth c cX3_endEmptying 2 none wsX3_endEmptying RX3)  : ∀ (n : Nat) (x1 : Int32) (S : ty_S) (H : Heap) (locs : List Loc) (ls : Array Slot), lX3_endEmptying_2 K  n x1 S → ty_Y D cA q ty_LY S s H locs → lv_has ls 2 [(0, .ref (q 1)), (1, .int x1)] → W p l e rX3_endEmptying s m args below meth c H locs 0 0 (ty_MV D cA q ty_LY K below args s) (F0 m 2 ls []) := by
  have hx := X.1.1
  have hb := X.1.2.1
  intro n
  induction n with
  | zero =>
    intro x1 S H locs ls h
    exact False.elim h
  | succ n ih =>
    intro x1 S H locs ls h Y hl
    unfold lX3_endEmptying_2 at h
    refine lv_iload_n hx hb dX3_endEmptying_2 rfl (lv_at hl 1 rfl) ?_
    refine lv_bipush (v := (16 : Int32)) hx hb dX3_endEmptying_3 (by decide) ?_
    refine lv_icmp_ge (tgt := 30) hx hb dX3_endEmptying_5 (by decide) (fun c9 => ?_) (fun c9 => ?_)
    · have h := ty_t h c9
      refine lv_aload_n hx hb dX3_endEmptying_30 rfl (lv_at hl 0 rfl) ?_
      refine tg_X3_freight X Y iX3_endEmptying_X3 kX3_endEmptying_0 dX3_endEmptying_31 ?_
      refine lv_aload_n hx hb dX3_endEmptying_34 rfl (lv_at hl 0 rfl) ?_
      refine tg_X3_emptied (v := (S 20 0)) X Y iX3_endEmptying_X3 kX3_endEmptying_1 rfl dX3_endEmptying_35 ?_
      refine ty_Vv (As := [.int (S 20 0)]) (b := 3) (rest := []) X Y (cX0_clear_C l D cA q S (S 20 0) _ h) rfl rfl (fun hts => cwV 1 hts gX3_endEmptying_X0_clear rfl rfl rfl (by decide +kernel) ⟨Nat.le_of_ble_eq_true rfl, Nat.le_of_ble_eq_true rfl⟩) rfl hl.1 (Nat.le_of_ble_eq_true rfl) dX3_endEmptying_38 ⟨Nat.zero_le _, Nat.zero_le _⟩ (fun S1 H locs h Y => ?_)
      refine lv_aload_n hx hb dX3_endEmptying_41 rfl (lv_at hl 0 rfl) ?_
      refine tg_X3_freight X Y iX3_endEmptying_X3 kX3_endEmptying_0 dX3_endEmptying_42 ?_
      refine lv_iconst (v := (0 : Int32)) hx hb dX3_endEmptying_45 (by decide) ?_
      refine ty_Vi (As := [.int (0 : Int32)]) (b := 3) (rest := []) X Y (cX0_nextReference_C l D cA q S1 (0 : Int32) _ h) rfl rfl (fun hts => cwV 1 hts gX3_endEmptying_X0_nextReference rfl rfl rfl (by decide +kernel) ⟨Nat.le_of_ble_eq_true rfl, Nat.le_of_ble_eq_true rfl⟩) rfl hl.1 (Nat.le_of_ble_eq_true rfl) dX3_endEmptying_46 ⟨Nat.zero_le _, Nat.zero_le _⟩ (fun r2 S2 H locs h Y => ?_)
      refine lv_istore_n (lv' := [(1, .int r2), (0, .ref (q 1))]) hx hb dX3_endEmptying_49 rfl hl (by decide) rfl (fun ls hl => ?_)
      obtain ⟨n9, h⟩ := h
      exact wlX3_endEmptying_50 X  n9 _ _ _ _ _ h Y (lv_sub hl [1, 0] rfl)
    · have h := ty_f h c9
      refine lv_aload_n hx hb dX3_endEmptying_8 rfl (lv_at hl 0 rfl) ?_
      refine tg_X3_held X Y iX3_endEmptying_X3 kX3_endEmptying_3 dX3_endEmptying_9 ?_
      refine lv_iload_n hx hb dX3_endEmptying_12 rfl (lv_at hl 1 rfl) ?_
      refine lv_aload_n hx hb dX3_endEmptying_13 rfl (lv_at hl 0 rfl) ?_
      refine lv_aload_n hx hb dX3_endEmptying_14 rfl (lv_at hl 0 rfl) ?_
      refine tg_X3_held X Y iX3_endEmptying_X3 kX3_endEmptying_3 dX3_endEmptying_15 ?_
      refine lv_iload_n hx hb dX3_endEmptying_18 rfl (lv_at hl 1 rfl) ?_
      refine ty_iald (v := (S 7 x1.toNatClampNeg)) X Y 5 16 7 rfl h.1 rfl dX3_endEmptying_19 ?_
      have h := h.2
      refine ty_Vi (As := [.int (S 7 x1.toNatClampNeg)]) (b := 1) (rest := [.int x1, .ref (q 5)]) X Y (cX3_placeNow_C l D cA q S (S 7 x1.toNatClampNeg) _ h) rfl rfl (fun hts => cwV 1 hts gX3_endEmptying_X3_placeNow rfl rfl rfl (by decide +kernel) ⟨Nat.le_of_ble_eq_true rfl, Nat.le_of_ble_eq_true rfl⟩) rfl hl.1 (Nat.le_of_ble_eq_true rfl) dX3_endEmptying_20 ⟨Nat.zero_le _, Nat.zero_le _⟩ (fun r8 S8 H locs h Y => ?_)
      refine ty_iast X Y 5 16 7 rfl (by decide) h.1 dX3_endEmptying_23 (fun H locs Y => ?_)
      have h := h.2
      refine lv_iinc (v := (x1 + (1 : Int32))) (lv' := [(1, .int (x1 + (1 : Int32))), (0, .ref (q 1))]) hx hb dX3_endEmptying_24 hl (k := 1) rfl rfl (by decide) rfl (fun ls hl => ?_)
      refine lv_goto (tgt := 2) hx hb dX3_endEmptying_27 (by decide) ?_
      exact ih _ _ _ _ _ h Y (lv_sub hl [1, 0] rfl)
def eX3_endEmptying (S : ty_S)  (K : ty_S → Prop) : Prop :=
  ∃ n9, lX3_endEmptying_2 K  n9 (0 : Int32) S
set_option maxHeartbeats 4000000 in
set_option maxRecDepth 100000 in
theorem cX3_endEmptying_C (l : Launch) (D : va_G) (cA : Nat → ClassId) (q : Nat → Nat) (S : ty_S)  (K : ty_S → Prop) (h : eX3_endEmptying S  K) : ∀ sz, Met l yX3_endEmptying wsX3_endEmptying rX3_endEmptying (ty_Pc D cA q ty_LY S sz [.ref (q 1)]) (ty_Qv D cA q ty_LY sz K) 0 0 (ty_A q ty_LY.length sz) := by
  refine ty_ofM (ret := none) (maxL := 2) (cc := cX3_endEmptying) (own := RX3) (Qc := fun sz => ty_Qv D cA q ty_LY sz K) (by decide +kernel) rfl (Nat.le_of_ble_eq_true rfl) rfl ?_
  intro p e s m args below meth c ls X hl Y
  have hx := X.1.1
  have hb := X.1.2.1
  have hl : lv_has ls 2 [(0, .ref (q 1))] := hl
  unfold eX3_endEmptying at h
  refine lv_iconst (v := (0 : Int32)) hx hb dX3_endEmptying_0 (by decide) ?_
  refine lv_istore_n (lv' := [(1, .int (0 : Int32)), (0, .ref (q 1))]) hx hb dX3_endEmptying_1 rfl hl (by decide) rfl (fun ls hl => ?_)
  obtain ⟨n9, h⟩ := h
  exact wlX3_endEmptying_2 X  n9 _ _ _ _ _ h Y (lv_sub hl [1, 0] rfl)

abbrev rX3_thingsIn : Room := { frames := 2, cells := 0, slots := 0, locals := 41 }
theorem kX3_thingsIn_0 : Cond.fieldLink RX3 12 "TrainYard$Yard" "freight" "LTrainYard$Freight;" ∈ wsX3_thingsIn := ty_m 1 (by decide +kernel)
theorem kX3_thingsIn_1 : Cond.fieldLink RX3 21 "TrainYard$Yard" "row" "LTrainYard$Row;" ∈ wsX3_thingsIn := ty_m 2 (by decide +kernel)
theorem iX3_thingsIn_X3 : ∀ w ∈ wsX30, w ∈ wsX3_thingsIn := ty_inp _ [19, 20, 21, 22, 23, 24, 25, 26, 27, 28, 29, 30, 31] (by decide +kernel)
def lX3_thingsIn_5 (K : ty_S → Int32 → Prop)  : Nat → Int32 → Int32 → Int32 → Int32 → ty_S → Prop
  | 0, _, _, _, _, _ => False
  | n + 1, x1, x2, x3, x4, S => (if x2 ≤ x4 then K S x3 else (eX1_carAt S (x1 + x4) (fun S1 r1 => (eX0_things S1 r1 (fun S2 r2 => lX3_thingsIn_5 K  n x1 x2 (x3 + r2) (x4 + (1 : Int32)) S2)))))
set_option maxHeartbeats 4000000 in
set_option maxRecDepth 100000 in
theorem wlX3_thingsIn_5 {p : Program} {l : Launch} {e : Env} {s : State} {m : MethodId} {args : Array Value} {below : List Frame} {meth : Method} {c : Code} {D : va_G} {cA : Nat → ClassId} {q : Nat → Nat} {K : ty_S → Int32 → Prop}  (X : ty_X D cA p s m args meth c cX3_thingsIn 5 (some .int) wsX3_thingsIn RX3)  : ∀ (n : Nat) (x1 : Int32) (x2 : Int32) (x3 : Int32) (x4 : Int32) (S : ty_S) (H : Heap) (locs : List Loc) (ls : Array Slot), lX3_thingsIn_5 K  n x1 x2 x3 x4 S → ty_Y D cA q ty_LY S s H locs → lv_has ls 5 [(0, .ref (q 1)), (1, .int x1), (2, .int x2), (3, .int x3), (4, .int x4)] → W p l e rX3_thingsIn s m args below meth c H locs 0 0 (ty_MI D cA q ty_LY K below args s) (F0 m 5 ls []) := by
  have hx := X.1.1
  have hb := X.1.2.1
  intro n
  induction n with
  | zero =>
    intro x1 x2 x3 x4 S H locs ls h
    exact False.elim h
  | succ n ih =>
    intro x1 x2 x3 x4 S H locs ls h Y hl
    unfold lX3_thingsIn_5 at h
    refine lv_iload hx hb dX3_thingsIn_5 (lv_at hl 4 rfl) ?_
    refine lv_iload_n hx hb dX3_thingsIn_7 rfl (lv_at hl 2 rfl) ?_
    refine lv_icmp_ge (tgt := 38) hx hb dX3_thingsIn_8 (by decide) (fun c9 => ?_) (fun c9 => ?_)
    · have h := ty_t h c9
      refine lv_iload_n hx hb dX3_thingsIn_38 rfl (lv_at hl 3 rfl) ?_
      exact ty_iret X Y h dX3_thingsIn_39
    · have h := ty_f h c9
      refine lv_iload_n hx hb dX3_thingsIn_11 rfl (lv_at hl 3 rfl) ?_
      refine lv_aload_n hx hb dX3_thingsIn_12 rfl (lv_at hl 0 rfl) ?_
      refine tg_X3_freight X Y iX3_thingsIn_X3 kX3_thingsIn_0 dX3_thingsIn_13 ?_
      refine lv_aload_n hx hb dX3_thingsIn_16 rfl (lv_at hl 0 rfl) ?_
      refine tg_X3_row X Y iX3_thingsIn_X3 kX3_thingsIn_1 dX3_thingsIn_17 ?_
      refine lv_iload_n hx hb dX3_thingsIn_20 rfl (lv_at hl 1 rfl) ?_
      refine lv_iload hx hb dX3_thingsIn_21 (lv_at hl 4 rfl) ?_
      refine lv_iadd hx hb dX3_thingsIn_23 ?_
      refine ty_Vi (As := [.int (x1 + x4)]) (b := 4) (rest := [.ref (q 3), .int x3]) X Y (cX1_carAt_C l D cA q S (x1 + x4) _ h) rfl rfl (fun hts => cwV 1 hts gX3_thingsIn_X1_carAt rfl rfl rfl (by decide +kernel) ⟨Nat.le_of_ble_eq_true rfl, Nat.le_of_ble_eq_true rfl⟩) rfl hl.1 (Nat.le_of_ble_eq_true rfl) dX3_thingsIn_24 ⟨Nat.zero_le _, Nat.zero_le _⟩ (fun r1 S1 H locs h Y => ?_)
      refine ty_Vi (As := [.int r1]) (b := 3) (rest := [.int x3]) X Y (cX0_things_C l D cA q S1 r1 _ h) rfl rfl (fun hts => cwV 1 hts gX3_thingsIn_X0_things rfl rfl rfl (by decide +kernel) ⟨Nat.le_of_ble_eq_true rfl, Nat.le_of_ble_eq_true rfl⟩) rfl hl.1 (Nat.le_of_ble_eq_true rfl) dX3_thingsIn_27 ⟨Nat.zero_le _, Nat.zero_le _⟩ (fun r2 S2 H locs h Y => ?_)
      refine lv_iadd hx hb dX3_thingsIn_30 ?_
      refine lv_istore_n (lv' := [(3, .int (x3 + r2)), (0, .ref (q 1)), (1, .int x1), (2, .int x2), (4, .int x4)]) hx hb dX3_thingsIn_31 rfl hl (by decide) rfl (fun ls hl => ?_)
      refine lv_iinc (v := (x4 + (1 : Int32))) (lv' := [(4, .int (x4 + (1 : Int32))), (3, .int (x3 + r2)), (0, .ref (q 1)), (1, .int x1), (2, .int x2)]) hx hb dX3_thingsIn_32 hl (k := 4) rfl rfl (by decide) rfl (fun ls hl => ?_)
      refine lv_goto (tgt := 5) hx hb dX3_thingsIn_35 (by decide) ?_
      exact ih _ _ _ _ _ _ _ _ h Y (lv_sub hl [2, 3, 4, 1, 0] rfl)
def eX3_thingsIn (S : ty_S) (x1 : Int32) (x2 : Int32) (K : ty_S → Int32 → Prop) : Prop :=
  ∃ n9, lX3_thingsIn_5 K  n9 x1 x2 (0 : Int32) (0 : Int32) S
set_option maxHeartbeats 4000000 in
set_option maxRecDepth 100000 in
theorem cX3_thingsIn_C (l : Launch) (D : va_G) (cA : Nat → ClassId) (q : Nat → Nat) (S : ty_S) (x1 : Int32) (x2 : Int32) (K : ty_S → Int32 → Prop) (h : eX3_thingsIn S x1 x2 K) : ∀ sz, Met l yX3_thingsIn wsX3_thingsIn rX3_thingsIn (ty_Pc D cA q ty_LY S sz [.ref (q 1), .int x1, .int x2]) (ty_Qi D cA q ty_LY sz K) 0 0 (ty_A q ty_LY.length sz) := by
  refine ty_ofM (ret := (some .int)) (maxL := 5) (cc := cX3_thingsIn) (own := RX3) (Qc := fun sz => ty_Qi D cA q ty_LY sz K) (by decide +kernel) rfl (Nat.le_of_ble_eq_true rfl) rfl ?_
  intro p e s m args below meth c ls X hl Y
  have hx := X.1.1
  have hb := X.1.2.1
  have hl : lv_has ls 5 [(0, .ref (q 1)), (1, .int x1), (2, .int x2)] := hl
  unfold eX3_thingsIn at h
  refine lv_iconst (v := (0 : Int32)) hx hb dX3_thingsIn_0 (by decide) ?_
  refine lv_istore_n (lv' := [(3, .int (0 : Int32)), (0, .ref (q 1)), (1, .int x1), (2, .int x2)]) hx hb dX3_thingsIn_1 rfl hl (by decide) rfl (fun ls hl => ?_)
  refine lv_iconst (v := (0 : Int32)) hx hb dX3_thingsIn_2 (by decide) ?_
  refine lv_istore (lv' := [(4, .int (0 : Int32)), (3, .int (0 : Int32)), (0, .ref (q 1)), (1, .int x1), (2, .int x2)]) hx hb dX3_thingsIn_3 hl (by decide) rfl (fun ls hl => ?_)
  obtain ⟨n9, h⟩ := h
  exact wlX3_thingsIn_5 X  n9 _ _ _ _ _ _ _ _ h Y (lv_sub hl [2, 3, 4, 1, 0] rfl)

abbrev rX3_dropFirstTrain : Room := { frames := 3, cells := 0, slots := 0, locals := 65 }
theorem kX3_dropFirstTrain_0 : Cond.fieldLink RX3 21 "TrainYard$Yard" "row" "LTrainYard$Row;" ∈ wsX3_dropFirstTrain := ty_m 1 (by decide +kernel)
theorem kX3_dropFirstTrain_1 : Cond.fieldLink RX3 33 "TrainYard$Yard" "wholeTrains" "I" ∈ wsX3_dropFirstTrain := ty_m 3 (by decide +kernel)
theorem kX3_dropFirstTrain_2 : Cond.fieldLink RX3 12 "TrainYard$Yard" "freight" "LTrainYard$Freight;" ∈ wsX3_dropFirstTrain := ty_m 2 (by decide +kernel)
theorem iX3_dropFirstTrain_X3 : ∀ w ∈ wsX30, w ∈ wsX3_dropFirstTrain := ty_inp _ [46, 47, 48, 49, 50, 51, 52, 53, 54, 55, 56, 57, 58] (by decide +kernel)
def lX3_dropFirstTrain_19 (K : ty_S → Int32 → Prop)  : Nat → Int32 → Int32 → Int32 → ty_S → Prop
  | 0, _, _, _, _ => False
  | n + 1, x2, x3, x4, S => (if x2 ≤ x4 then K (ty_st S 16 0 ((S 16 0) + (1 : Int32))) x3 else (eX1_carAt S (0 : Int32) (fun S3 r3 => (eX0_clear S3 r3 (fun S4 => (eX1_removeFirstCar S4  (fun S5 => lX3_dropFirstTrain_19 K  n x2 x3 (x4 + (1 : Int32)) S5)))))))
set_option maxHeartbeats 4000000 in
set_option maxRecDepth 100000 in
theorem wlX3_dropFirstTrain_19 {p : Program} {l : Launch} {e : Env} {s : State} {m : MethodId} {args : Array Value} {below : List Frame} {meth : Method} {c : Code} {D : va_G} {cA : Nat → ClassId} {q : Nat → Nat} {K : ty_S → Int32 → Prop}  (X : ty_X D cA p s m args meth c cX3_dropFirstTrain 5 (some .int) wsX3_dropFirstTrain RX3)  : ∀ (n : Nat) (x2 : Int32) (x3 : Int32) (x4 : Int32) (S : ty_S) (H : Heap) (locs : List Loc) (ls : Array Slot), lX3_dropFirstTrain_19 K  n x2 x3 x4 S → ty_Y D cA q ty_LY S s H locs → lv_has ls 5 [(0, .ref (q 1)), (2, .int x2), (3, .int x3), (4, .int x4)] → W p l e rX3_dropFirstTrain s m args below meth c H locs 0 0 (ty_MI D cA q ty_LY K below args s) (F0 m 19 ls []) := by
  have hx := X.1.1
  have hb := X.1.2.1
  intro n
  induction n with
  | zero =>
    intro x2 x3 x4 S H locs ls h
    exact False.elim h
  | succ n ih =>
    intro x2 x3 x4 S H locs ls h Y hl
    unfold lX3_dropFirstTrain_19 at h
    refine lv_iload hx hb dX3_dropFirstTrain_19 (lv_at hl 3 rfl) ?_
    refine lv_iload_n hx hb dX3_dropFirstTrain_21 rfl (lv_at hl 1 rfl) ?_
    refine lv_icmp_ge (tgt := 53) hx hb dX3_dropFirstTrain_22 (by decide) (fun c9 => ?_) (fun c9 => ?_)
    · have h := ty_t h c9
      refine lv_aload_n hx hb dX3_dropFirstTrain_53 rfl (lv_at hl 0 rfl) ?_
      refine lv_dup hx hb dX3_dropFirstTrain_54 rfl ?_
      refine tg_X3_wholeTrains (v := (S 16 0)) X Y iX3_dropFirstTrain_X3 kX3_dropFirstTrain_1 rfl dX3_dropFirstTrain_55 ?_
      refine lv_iconst (v := (1 : Int32)) hx hb dX3_dropFirstTrain_58 (by decide) ?_
      refine lv_iadd hx hb dX3_dropFirstTrain_59 ?_
      refine tp_X3_wholeTrains X Y iX3_dropFirstTrain_X3 kX3_dropFirstTrain_1 dX3_dropFirstTrain_60 (fun H locs Y => ?_)
      refine lv_iload_n hx hb dX3_dropFirstTrain_63 rfl (lv_at hl 2 rfl) ?_
      exact ty_iret X Y h dX3_dropFirstTrain_64
    · have h := ty_f h c9
      refine lv_aload_n hx hb dX3_dropFirstTrain_25 rfl (lv_at hl 0 rfl) ?_
      refine tg_X3_freight X Y iX3_dropFirstTrain_X3 kX3_dropFirstTrain_2 dX3_dropFirstTrain_26 ?_
      refine lv_aload_n hx hb dX3_dropFirstTrain_29 rfl (lv_at hl 0 rfl) ?_
      refine tg_X3_row X Y iX3_dropFirstTrain_X3 kX3_dropFirstTrain_0 dX3_dropFirstTrain_30 ?_
      refine lv_iconst (v := (0 : Int32)) hx hb dX3_dropFirstTrain_33 (by decide) ?_
      refine ty_Vi (As := [.int (0 : Int32)]) (b := 4) (rest := [.ref (q 3)]) X Y (cX1_carAt_C l D cA q S (0 : Int32) _ h) rfl rfl (fun hts => cwV 1 hts gX3_dropFirstTrain_X1_carAt rfl rfl rfl (by decide +kernel) ⟨Nat.le_of_ble_eq_true rfl, Nat.le_of_ble_eq_true rfl⟩) rfl hl.1 (Nat.le_of_ble_eq_true rfl) dX3_dropFirstTrain_34 ⟨Nat.zero_le _, Nat.zero_le _⟩ (fun r3 S3 H locs h Y => ?_)
      refine ty_Vv (As := [.int r3]) (b := 3) (rest := []) X Y (cX0_clear_C l D cA q S3 r3 _ h) rfl rfl (fun hts => cwV 1 hts gX3_dropFirstTrain_X0_clear rfl rfl rfl (by decide +kernel) ⟨Nat.le_of_ble_eq_true rfl, Nat.le_of_ble_eq_true rfl⟩) rfl hl.1 (Nat.le_of_ble_eq_true rfl) dX3_dropFirstTrain_37 ⟨Nat.zero_le _, Nat.zero_le _⟩ (fun S4 H locs h Y => ?_)
      refine lv_aload_n hx hb dX3_dropFirstTrain_40 rfl (lv_at hl 0 rfl) ?_
      refine tg_X3_row X Y iX3_dropFirstTrain_X3 kX3_dropFirstTrain_0 dX3_dropFirstTrain_41 ?_
      refine ty_Vv (As := []) (b := 4) (rest := []) X Y (cX1_removeFirstCar_C l D cA q S4  _ h) rfl rfl (fun hts => cwV 0 hts gX3_dropFirstTrain_X1_removeFirstCar rfl rfl rfl (by decide +kernel) ⟨Nat.le_of_ble_eq_true rfl, Nat.le_of_ble_eq_true rfl⟩) rfl hl.1 (Nat.le_of_ble_eq_true rfl) dX3_dropFirstTrain_44 ⟨Nat.zero_le _, Nat.zero_le _⟩ (fun S5 H locs h Y => ?_)
      refine lv_iinc (v := (x4 + (1 : Int32))) (lv' := [(4, .int (x4 + (1 : Int32))), (0, .ref (q 1)), (2, .int x2), (3, .int x3)]) hx hb dX3_dropFirstTrain_47 hl (k := 3) rfl rfl (by decide) rfl (fun ls hl => ?_)
      refine lv_goto (tgt := 19) hx hb dX3_dropFirstTrain_50 (by decide) ?_
      exact ih _ _ _ _ _ _ _ h Y (lv_sub hl [1, 2, 3, 0] rfl)
def eX3_dropFirstTrain (S : ty_S) (x1 : Int32) (K : ty_S → Int32 → Prop) : Prop :=
  (eX1_carsOf S x1 (fun S1 r1 => (eX3_thingsIn S1 (0 : Int32) r1 (fun S2 r2 => ∃ n9, lX3_dropFirstTrain_19 K  n9 r1 r2 (0 : Int32) S2))))
set_option maxHeartbeats 4000000 in
set_option maxRecDepth 100000 in
theorem cX3_dropFirstTrain_C (l : Launch) (D : va_G) (cA : Nat → ClassId) (q : Nat → Nat) (S : ty_S) (x1 : Int32) (K : ty_S → Int32 → Prop) (h : eX3_dropFirstTrain S x1 K) : ∀ sz, Met l yX3_dropFirstTrain wsX3_dropFirstTrain rX3_dropFirstTrain (ty_Pc D cA q ty_LY S sz [.ref (q 1), .int x1]) (ty_Qi D cA q ty_LY sz K) 0 0 (ty_A q ty_LY.length sz) := by
  refine ty_ofM (ret := (some .int)) (maxL := 5) (cc := cX3_dropFirstTrain) (own := RX3) (Qc := fun sz => ty_Qi D cA q ty_LY sz K) (by decide +kernel) rfl (Nat.le_of_ble_eq_true rfl) rfl ?_
  intro p e s m args below meth c ls X hl Y
  have hx := X.1.1
  have hb := X.1.2.1
  have hl : lv_has ls 5 [(0, .ref (q 1)), (1, .int x1)] := hl
  unfold eX3_dropFirstTrain at h
  refine lv_aload_n hx hb dX3_dropFirstTrain_0 rfl (lv_at hl 0 rfl) ?_
  refine tg_X3_row X Y iX3_dropFirstTrain_X3 kX3_dropFirstTrain_0 dX3_dropFirstTrain_1 ?_
  refine lv_iload_n hx hb dX3_dropFirstTrain_4 rfl (lv_at hl 1 rfl) ?_
  refine ty_Vi (As := [.int x1]) (b := 4) (rest := []) X Y (cX1_carsOf_C l D cA q S x1 _ h) rfl rfl (fun hts => cwV 1 hts gX3_dropFirstTrain_X1_carsOf rfl rfl rfl (by decide +kernel) ⟨Nat.le_of_ble_eq_true rfl, Nat.le_of_ble_eq_true rfl⟩) rfl hl.1 (Nat.le_of_ble_eq_true rfl) dX3_dropFirstTrain_5 ⟨Nat.zero_le _, Nat.zero_le _⟩ (fun r1 S1 H locs h Y => ?_)
  refine lv_istore_n (lv' := [(2, .int r1), (0, .ref (q 1)), (1, .int x1)]) hx hb dX3_dropFirstTrain_8 rfl hl (by decide) rfl (fun ls hl => ?_)
  refine lv_aload_n hx hb dX3_dropFirstTrain_9 rfl (lv_at hl 1 rfl) ?_
  refine lv_iconst (v := (0 : Int32)) hx hb dX3_dropFirstTrain_10 (by decide) ?_
  refine lv_iload_n hx hb dX3_dropFirstTrain_11 rfl (lv_at hl 0 rfl) ?_
  refine ty_Vi (As := [.int (0 : Int32), .int r1]) (b := 1) (rest := []) X Y (cX3_thingsIn_C l D cA q S1 (0 : Int32) r1 _ h) rfl rfl (fun hts => cwV 2 hts gX3_dropFirstTrain_X3_thingsIn rfl rfl rfl (by decide +kernel) ⟨Nat.le_of_ble_eq_true rfl, Nat.le_of_ble_eq_true rfl⟩) rfl hl.1 (Nat.le_of_ble_eq_true rfl) dX3_dropFirstTrain_12 ⟨Nat.zero_le _, Nat.zero_le _⟩ (fun r2 S2 H locs h Y => ?_)
  refine lv_istore_n (lv' := [(3, .int r2), (2, .int r1), (0, .ref (q 1)), (1, .int x1)]) hx hb dX3_dropFirstTrain_15 rfl hl (by decide) rfl (fun ls hl => ?_)
  refine lv_iconst (v := (0 : Int32)) hx hb dX3_dropFirstTrain_16 (by decide) ?_
  refine lv_istore (lv' := [(4, .int (0 : Int32)), (3, .int r2), (2, .int r1), (0, .ref (q 1)), (1, .int x1)]) hx hb dX3_dropFirstTrain_17 hl (by decide) rfl (fun ls hl => ?_)
  obtain ⟨n9, h⟩ := h
  exact wlX3_dropFirstTrain_19 X  n9 _ _ _ _ _ _ _ h Y (lv_sub hl [3, 2, 1, 0] rfl)

abbrev rX3_doStep : Room := { frames := 6, cells := 0, slots := 0, locals := 149 }
theorem kX3_doStep_0 : Cond.fieldLink RX3 21 "TrainYard$Yard" "row" "LTrainYard$Row;" ∈ wsX3_doStep := ty_m 1 (by decide +kernel)
theorem kX3_doStep_1 : Cond.fieldLink RX3 29 "TrainYard$Yard" "steps" "I" ∈ wsX3_doStep := ty_m 5 (by decide +kernel)
theorem kX3_doStep_2 : Cond.fieldLink RX3 36 "TrainYard$Yard" "thingsGone" "I" ∈ wsX3_doStep := ty_m 6 (by decide +kernel)
theorem kX3_doStep_3 : Cond.fieldLink RX3 12 "TrainYard$Yard" "freight" "LTrainYard$Freight;" ∈ wsX3_doStep := ty_m 2 (by decide +kernel)
theorem kX3_doStep_4 : Cond.fieldLink RX3 45 "TrainYard$Yard" "emptied" "I" ∈ wsX3_doStep := ty_m 3 (by decide +kernel)
theorem kX3_doStep_5 : Cond.fieldLink RX3 54 "TrainYard$Yard" "movedCount" "I" ∈ wsX3_doStep := ty_m 4 (by decide +kernel)
theorem iX3_doStep_X3 : ∀ w ∈ wsX30, w ∈ wsX3_doStep := ty_inp _ [191, 192, 193, 194, 195, 196, 197, 198, 199, 200, 201, 202, 203] (by decide +kernel)
def jX3_doStep_67 (K : ty_S → Int32 → Prop)  (x2 : Int32) (S : ty_S) : Prop :=
  K (ty_st (ty_st S 15 0 ((S 15 0) + (1 : Int32))) 17 0 ((S 17 0) + x2)) x2
set_option maxHeartbeats 4000000 in
set_option maxRecDepth 100000 in
theorem wjX3_doStep_67 {p : Program} {l : Launch} {e : Env} {s : State} {m : MethodId} {args : Array Value} {below : List Frame} {meth : Method} {c : Code} {D : va_G} {cA : Nat → ClassId} {q : Nat → Nat} {K : ty_S → Int32 → Prop}  (X : ty_X D cA p s m args meth c cX3_doStep 3 (some .int) wsX3_doStep RX3)  (x2 : Int32) (S : ty_S) (H : Heap) (locs : List Loc) (ls : Array Slot) (h : jX3_doStep_67 K  x2 S) (Y : ty_Y D cA q ty_LY S s H locs) (hl : lv_has ls 3 [(0, .ref (q 1)), (2, .int x2)]) : W p l e rX3_doStep s m args below meth c H locs 0 0 (ty_MI D cA q ty_LY K below args s) (F0 m 67 ls []) := by
  have hx := X.1.1
  have hb := X.1.2.1
  unfold jX3_doStep_67 at h
  refine lv_aload_n hx hb dX3_doStep_67 rfl (lv_at hl 0 rfl) ?_
  refine lv_dup hx hb dX3_doStep_68 rfl ?_
  refine tg_X3_steps (v := (S 15 0)) X Y iX3_doStep_X3 kX3_doStep_1 rfl dX3_doStep_69 ?_
  refine lv_iconst (v := (1 : Int32)) hx hb dX3_doStep_72 (by decide) ?_
  refine lv_iadd hx hb dX3_doStep_73 ?_
  refine tp_X3_steps X Y iX3_doStep_X3 kX3_doStep_1 dX3_doStep_74 (fun H locs Y => ?_)
  refine lv_aload_n hx hb dX3_doStep_77 rfl (lv_at hl 0 rfl) ?_
  refine lv_dup hx hb dX3_doStep_78 rfl ?_
  refine tg_X3_thingsGone (v := (S 17 0)) X Y iX3_doStep_X3 kX3_doStep_2 rfl dX3_doStep_79 ?_
  refine lv_iload_n hx hb dX3_doStep_82 rfl (lv_at hl 1 rfl) ?_
  refine lv_iadd hx hb dX3_doStep_83 ?_
  refine tp_X3_thingsGone X Y iX3_doStep_X3 kX3_doStep_2 dX3_doStep_84 (fun H locs Y => ?_)
  refine lv_iload_n hx hb dX3_doStep_87 rfl (lv_at hl 1 rfl) ?_
  exact ty_iret X Y h dX3_doStep_88
def eX3_doStep (S : ty_S)  (K : ty_S → Int32 → Prop) : Prop :=
  (eX1_firstTrain S  (fun S1 r1 => (eX3_isReferredTo S1 r1 (fun S2 r2 => (if r2 = (0 : Int32) then (eX3_dropFirstTrain S2 r1 (fun S3 r3 => jX3_doStep_67 K  r3 S3)) else (eX3_startEmptying S2  (fun S4 => (eX3_moveHeld S4 r1 (fun S5 => (eX3_moveReferredTo S5 r1 (0 : Int32) (fun S6 => (eX3_moveReferredTo S6 r1 (1 : Int32) (fun S7 => (eX0_things S7 (S7 20 0) (fun S8 r8 => (eX3_endEmptying S8  (fun S9 => jX3_doStep_67 K  (r8 - (S8 21 0)) S9)))))))))))))))))
set_option maxHeartbeats 4000000 in
set_option maxRecDepth 100000 in
theorem cX3_doStep_C (l : Launch) (D : va_G) (cA : Nat → ClassId) (q : Nat → Nat) (S : ty_S)  (K : ty_S → Int32 → Prop) (h : eX3_doStep S  K) : ∀ sz, Met l yX3_doStep wsX3_doStep rX3_doStep (ty_Pc D cA q ty_LY S sz [.ref (q 1)]) (ty_Qi D cA q ty_LY sz K) 0 0 (ty_A q ty_LY.length sz) := by
  refine ty_ofM (ret := (some .int)) (maxL := 3) (cc := cX3_doStep) (own := RX3) (Qc := fun sz => ty_Qi D cA q ty_LY sz K) (by decide +kernel) rfl (Nat.le_of_ble_eq_true rfl) rfl ?_
  intro p e s m args below meth c ls X hl Y
  have hx := X.1.1
  have hb := X.1.2.1
  have hl : lv_has ls 3 [(0, .ref (q 1))] := hl
  unfold eX3_doStep at h
  refine lv_aload_n hx hb dX3_doStep_0 rfl (lv_at hl 0 rfl) ?_
  refine tg_X3_row X Y iX3_doStep_X3 kX3_doStep_0 dX3_doStep_1 ?_
  refine ty_Vi (As := []) (b := 4) (rest := []) X Y (cX1_firstTrain_C l D cA q S  _ h) rfl rfl (fun hts => cwV 0 hts gX3_doStep_X1_firstTrain rfl rfl rfl (by decide +kernel) ⟨Nat.le_of_ble_eq_true rfl, Nat.le_of_ble_eq_true rfl⟩) rfl hl.1 (Nat.le_of_ble_eq_true rfl) dX3_doStep_4 ⟨Nat.zero_le _, Nat.zero_le _⟩ (fun r1 S1 H locs h Y => ?_)
  refine lv_istore_n (lv' := [(1, .int r1), (0, .ref (q 1))]) hx hb dX3_doStep_7 rfl hl (by decide) rfl (fun ls hl => ?_)
  refine lv_aload_n hx hb dX3_doStep_8 rfl (lv_at hl 1 rfl) ?_
  refine lv_iload_n hx hb dX3_doStep_9 rfl (lv_at hl 0 rfl) ?_
  refine ty_Vi (As := [.int r1]) (b := 1) (rest := []) X Y (cX3_isReferredTo_C l D cA q S1 r1 _ h) rfl rfl (fun hts => cwV 1 hts gX3_doStep_X3_isReferredTo rfl rfl rfl (by decide +kernel) ⟨Nat.le_of_ble_eq_true rfl, Nat.le_of_ble_eq_true rfl⟩) rfl hl.1 (Nat.le_of_ble_eq_true rfl) dX3_doStep_10 ⟨Nat.zero_le _, Nat.zero_le _⟩ (fun r2 S2 H locs h Y => ?_)
  refine lv_if_eq (tgt := 61) hx hb dX3_doStep_13 (by decide) (fun c9 => ?_) (fun c9 => ?_)
  · have h := ty_t h c9
    refine lv_aload_n hx hb dX3_doStep_61 rfl (lv_at hl 1 rfl) ?_
    refine lv_iload_n hx hb dX3_doStep_62 rfl (lv_at hl 0 rfl) ?_
    refine ty_Vi (As := [.int r1]) (b := 1) (rest := []) X Y (cX3_dropFirstTrain_C l D cA q S2 r1 _ h) rfl rfl (fun hts => cwV 1 hts gX3_doStep_X3_dropFirstTrain rfl rfl rfl (by decide +kernel) ⟨Nat.le_of_ble_eq_true rfl, Nat.le_of_ble_eq_true rfl⟩) rfl hl.1 (Nat.le_of_ble_eq_true rfl) dX3_doStep_63 ⟨Nat.zero_le _, Nat.zero_le _⟩ (fun r3 S3 H locs h Y => ?_)
    refine lv_istore_n (lv' := [(2, .int r3), (1, .int r1), (0, .ref (q 1))]) hx hb dX3_doStep_66 rfl hl (by decide) rfl (fun ls hl => ?_)
    exact wjX3_doStep_67 X  _ _ _ _ _ h Y (lv_sub hl [2, 0] rfl)
  · have h := ty_f h c9
    refine lv_aload_n hx hb dX3_doStep_16 rfl (lv_at hl 1 rfl) ?_
    refine ty_Vv (As := []) (b := 1) (rest := []) X Y (cX3_startEmptying_C l D cA q S2  _ h) rfl rfl (fun hts => cwV 0 hts gX3_doStep_X3_startEmptying rfl rfl rfl (by decide +kernel) ⟨Nat.le_of_ble_eq_true rfl, Nat.le_of_ble_eq_true rfl⟩) rfl hl.1 (Nat.le_of_ble_eq_true rfl) dX3_doStep_17 ⟨Nat.zero_le _, Nat.zero_le _⟩ (fun S4 H locs h Y => ?_)
    refine lv_aload_n hx hb dX3_doStep_20 rfl (lv_at hl 1 rfl) ?_
    refine lv_iload_n hx hb dX3_doStep_21 rfl (lv_at hl 0 rfl) ?_
    refine ty_Vv (As := [.int r1]) (b := 1) (rest := []) X Y (cX3_moveHeld_C l D cA q S4 r1 _ h) rfl rfl (fun hts => cwV 1 hts gX3_doStep_X3_moveHeld rfl rfl rfl (by decide +kernel) ⟨Nat.le_of_ble_eq_true rfl, Nat.le_of_ble_eq_true rfl⟩) rfl hl.1 (Nat.le_of_ble_eq_true rfl) dX3_doStep_22 ⟨Nat.zero_le _, Nat.zero_le _⟩ (fun S5 H locs h Y => ?_)
    refine lv_aload_n hx hb dX3_doStep_25 rfl (lv_at hl 1 rfl) ?_
    refine lv_iload_n hx hb dX3_doStep_26 rfl (lv_at hl 0 rfl) ?_
    refine lv_iconst (v := (0 : Int32)) hx hb dX3_doStep_27 (by decide) ?_
    refine ty_Vv (As := [.int r1, .int (0 : Int32)]) (b := 1) (rest := []) X Y (cX3_moveReferredTo_C l D cA q S5 r1 (0 : Int32) _ h) rfl rfl (fun hts => cwV 2 hts gX3_doStep_X3_moveReferredTo rfl rfl rfl (by decide +kernel) ⟨Nat.le_of_ble_eq_true rfl, Nat.le_of_ble_eq_true rfl⟩) rfl hl.1 (Nat.le_of_ble_eq_true rfl) dX3_doStep_28 ⟨Nat.zero_le _, Nat.zero_le _⟩ (fun S6 H locs h Y => ?_)
    refine lv_aload_n hx hb dX3_doStep_31 rfl (lv_at hl 1 rfl) ?_
    refine lv_iload_n hx hb dX3_doStep_32 rfl (lv_at hl 0 rfl) ?_
    refine lv_iconst (v := (1 : Int32)) hx hb dX3_doStep_33 (by decide) ?_
    refine ty_Vv (As := [.int r1, .int (1 : Int32)]) (b := 1) (rest := []) X Y (cX3_moveReferredTo_C l D cA q S6 r1 (1 : Int32) _ h) rfl rfl (fun hts => cwV 2 hts gX3_doStep_X3_moveReferredTo rfl rfl rfl (by decide +kernel) ⟨Nat.le_of_ble_eq_true rfl, Nat.le_of_ble_eq_true rfl⟩) rfl hl.1 (Nat.le_of_ble_eq_true rfl) dX3_doStep_34 ⟨Nat.zero_le _, Nat.zero_le _⟩ (fun S7 H locs h Y => ?_)
    refine lv_aload_n hx hb dX3_doStep_37 rfl (lv_at hl 1 rfl) ?_
    refine tg_X3_freight X Y iX3_doStep_X3 kX3_doStep_3 dX3_doStep_38 ?_
    refine lv_aload_n hx hb dX3_doStep_41 rfl (lv_at hl 1 rfl) ?_
    refine tg_X3_emptied (v := (S7 20 0)) X Y iX3_doStep_X3 kX3_doStep_4 rfl dX3_doStep_42 ?_
    refine ty_Vi (As := [.int (S7 20 0)]) (b := 3) (rest := []) X Y (cX0_things_C l D cA q S7 (S7 20 0) _ h) rfl rfl (fun hts => cwV 1 hts gX3_doStep_X0_things rfl rfl rfl (by decide +kernel) ⟨Nat.le_of_ble_eq_true rfl, Nat.le_of_ble_eq_true rfl⟩) rfl hl.1 (Nat.le_of_ble_eq_true rfl) dX3_doStep_45 ⟨Nat.zero_le _, Nat.zero_le _⟩ (fun r8 S8 H locs h Y => ?_)
    refine lv_aload_n hx hb dX3_doStep_48 rfl (lv_at hl 1 rfl) ?_
    refine tg_X3_movedCount (v := (S8 21 0)) X Y iX3_doStep_X3 kX3_doStep_5 rfl dX3_doStep_49 ?_
    refine lv_isub hx hb dX3_doStep_52 ?_
    refine lv_istore_n (lv' := [(2, .int (r8 - (S8 21 0))), (1, .int r1), (0, .ref (q 1))]) hx hb dX3_doStep_53 rfl hl (by decide) rfl (fun ls hl => ?_)
    refine lv_aload_n hx hb dX3_doStep_54 rfl (lv_at hl 2 rfl) ?_
    refine ty_Vv (As := []) (b := 1) (rest := []) X Y (cX3_endEmptying_C l D cA q S8  _ h) rfl rfl (fun hts => cwV 0 hts gX3_doStep_X3_endEmptying rfl rfl rfl (by decide +kernel) ⟨Nat.le_of_ble_eq_true rfl, Nat.le_of_ble_eq_true rfl⟩) rfl hl.1 (Nat.le_of_ble_eq_true rfl) dX3_doStep_55 ⟨Nat.zero_le _, Nat.zero_le _⟩ (fun S9 H locs h Y => ?_)
    refine lv_goto (tgt := 67) hx hb dX3_doStep_58 (by decide) ?_
    exact wjX3_doStep_67 X  _ _ _ _ _ h Y (lv_sub hl [2, 0] rfl)

abbrev rX3_carForNew : Room := { frames := 3, cells := 0, slots := 0, locals := 64 }
theorem kX3_carForNew_0 : Cond.fieldLink RX3 21 "TrainYard$Yard" "row" "LTrainYard$Row;" ∈ wsX3_carForNew := ty_m 1 (by decide +kernel)
theorem iX3_carForNew_X1 : ∀ w ∈ wsX10, w ∈ wsX3_carForNew := ty_inp _ [66, 67, 68, 69] (by decide +kernel)
theorem iX3_carForNew_X3 : ∀ w ∈ wsX30, w ∈ wsX3_carForNew := ty_inp _ [53, 54, 55, 56, 57, 58, 59, 60, 61, 62, 63, 64, 65] (by decide +kernel)
def eX3_carForNew (S : ty_S) (x1 : Int32) (x2 : Int32) (K : ty_S → Int32 → Prop) : Prop :=
  (eX3_lastHasRoom S x1 (fun S1 r1 => (if r1 = (0 : Int32) then (eX1_lastTrain S1  (fun S2 r2 => (if (S2 13 0) = (0 : Int32) then (eX1_addTrain S2  (fun S3 r3 => K S3 r3)) else (eX1_carsOf S2 r2 (fun S4 r4 => (if r4 < x2 then (eX1_addCar S4 r2 (fun S5 r5 => K S5 r5)) else (eX1_addTrain S4  (fun S6 r6 => K S6 r6)))))))) else (eX1_carAt S1 ((S1 13 0) - (1 : Int32)) (fun S7 r7 => K S7 r7)))))
set_option maxHeartbeats 4000000 in
set_option maxRecDepth 100000 in
theorem cX3_carForNew_C (l : Launch) (D : va_G) (cA : Nat → ClassId) (q : Nat → Nat) (S : ty_S) (x1 : Int32) (x2 : Int32) (K : ty_S → Int32 → Prop) (h : eX3_carForNew S x1 x2 K) : ∀ sz, Met l yX3_carForNew wsX3_carForNew rX3_carForNew (ty_Pc D cA q ty_LY S sz [.ref (q 1), .int x1, .int x2]) (ty_Qi D cA q ty_LY sz K) 0 0 (ty_A q ty_LY.length sz) := by
  refine ty_ofM (ret := (some .int)) (maxL := 4) (cc := cX3_carForNew) (own := RX3) (Qc := fun sz => ty_Qi D cA q ty_LY sz K) (by decide +kernel) rfl (Nat.le_of_ble_eq_true rfl) rfl ?_
  intro p e s m args below meth c ls X hl Y
  have hx := X.1.1
  have hb := X.1.2.1
  have hl : lv_has ls 4 [(0, .ref (q 1)), (1, .int x1), (2, .int x2)] := hl
  unfold eX3_carForNew at h
  refine lv_aload_n hx hb dX3_carForNew_0 rfl (lv_at hl 0 rfl) ?_
  refine lv_iload_n hx hb dX3_carForNew_1 rfl (lv_at hl 1 rfl) ?_
  refine ty_Vi (As := [.int x1]) (b := 1) (rest := []) X Y (cX3_lastHasRoom_C l D cA q S x1 _ h) rfl rfl (fun hts => cwV 1 hts gX3_carForNew_X3_lastHasRoom rfl rfl rfl (by decide +kernel) ⟨Nat.le_of_ble_eq_true rfl, Nat.le_of_ble_eq_true rfl⟩) rfl hl.1 (Nat.le_of_ble_eq_true rfl) dX3_carForNew_2 ⟨Nat.zero_le _, Nat.zero_le _⟩ (fun r1 S1 H locs h Y => ?_)
  refine lv_if_eq (tgt := 25) hx hb dX3_carForNew_5 (by decide) (fun c9 => ?_) (fun c9 => ?_)
  · have h := ty_t h c9
    refine lv_aload_n hx hb dX3_carForNew_25 rfl (lv_at hl 0 rfl) ?_
    refine tg_X3_row X Y iX3_carForNew_X3 kX3_carForNew_0 dX3_carForNew_26 ?_
    refine ty_Vi (As := []) (b := 4) (rest := []) X Y (cX1_lastTrain_C l D cA q S1  _ h) rfl rfl (fun hts => cwV 0 hts gX3_carForNew_X1_lastTrain rfl rfl rfl (by decide +kernel) ⟨Nat.le_of_ble_eq_true rfl, Nat.le_of_ble_eq_true rfl⟩) rfl hl.1 (Nat.le_of_ble_eq_true rfl) dX3_carForNew_29 ⟨Nat.zero_le _, Nat.zero_le _⟩ (fun r2 S2 H locs h Y => ?_)
    refine lv_istore_n (lv' := [(3, .int r2), (0, .ref (q 1)), (1, .int x1), (2, .int x2)]) hx hb dX3_carForNew_32 rfl hl (by decide) rfl (fun ls hl => ?_)
    refine lv_aload_n hx hb dX3_carForNew_33 rfl (lv_at hl 1 rfl) ?_
    refine tg_X3_row X Y iX3_carForNew_X3 kX3_carForNew_0 dX3_carForNew_34 ?_
    refine tn_X1_count (v := (S2 13 0)) X Y iX3_carForNew_X1 (ty_m 3 rfl) rfl dX3_carForNew_37 ?_
    refine lv_if_eq (tgt := 55) hx hb dX3_carForNew_40 (by decide) (fun c9 => ?_) (fun c9 => ?_)
    · have h := ty_t h c9
      refine lv_aload_n hx hb dX3_carForNew_55 rfl (lv_at hl 1 rfl) ?_
      refine tg_X3_row X Y iX3_carForNew_X3 kX3_carForNew_0 dX3_carForNew_56 ?_
      refine ty_Vi (As := []) (b := 4) (rest := []) X Y (cX1_addTrain_C l D cA q S2  _ h) rfl rfl (fun hts => cwV 0 hts gX3_carForNew_X1_addTrain rfl rfl rfl (by decide +kernel) ⟨Nat.le_of_ble_eq_true rfl, Nat.le_of_ble_eq_true rfl⟩) rfl hl.1 (Nat.le_of_ble_eq_true rfl) dX3_carForNew_59 ⟨Nat.zero_le _, Nat.zero_le _⟩ (fun r3 S3 H locs h Y => ?_)
      exact ty_iret X Y h dX3_carForNew_62
    · have h := ty_f h c9
      refine lv_aload_n hx hb dX3_carForNew_43 rfl (lv_at hl 1 rfl) ?_
      refine tg_X3_row X Y iX3_carForNew_X3 kX3_carForNew_0 dX3_carForNew_44 ?_
      refine lv_iload_n hx hb dX3_carForNew_47 rfl (lv_at hl 0 rfl) ?_
      refine ty_Vi (As := [.int r2]) (b := 4) (rest := []) X Y (cX1_carsOf_C l D cA q S2 r2 _ h) rfl rfl (fun hts => cwV 1 hts gX3_carForNew_X1_carsOf rfl rfl rfl (by decide +kernel) ⟨Nat.le_of_ble_eq_true rfl, Nat.le_of_ble_eq_true rfl⟩) rfl hl.1 (Nat.le_of_ble_eq_true rfl) dX3_carForNew_48 ⟨Nat.zero_le _, Nat.zero_le _⟩ (fun r4 S4 H locs h Y => ?_)
      refine lv_iload_n hx hb dX3_carForNew_51 rfl (lv_at hl 3 rfl) ?_
      refine lv_icmp_lt (tgt := 63) hx hb dX3_carForNew_52 (by decide) (fun c9 => ?_) (fun c9 => ?_)
      · have h := ty_t h c9
        refine lv_aload_n hx hb dX3_carForNew_63 rfl (lv_at hl 1 rfl) ?_
        refine tg_X3_row X Y iX3_carForNew_X3 kX3_carForNew_0 dX3_carForNew_64 ?_
        refine lv_iload_n hx hb dX3_carForNew_67 rfl (lv_at hl 0 rfl) ?_
        refine ty_Vi (As := [.int r2]) (b := 4) (rest := []) X Y (cX1_addCar_C l D cA q S4 r2 _ h) rfl rfl (fun hts => cwV 1 hts gX3_carForNew_X1_addCar rfl rfl rfl (by decide +kernel) ⟨Nat.le_of_ble_eq_true rfl, Nat.le_of_ble_eq_true rfl⟩) rfl hl.1 (Nat.le_of_ble_eq_true rfl) dX3_carForNew_68 ⟨Nat.zero_le _, Nat.zero_le _⟩ (fun r5 S5 H locs h Y => ?_)
        exact ty_iret X Y h dX3_carForNew_71
      · have h := ty_f h c9
        refine lv_aload_n hx hb dX3_carForNew_55 rfl (lv_at hl 1 rfl) ?_
        refine tg_X3_row X Y iX3_carForNew_X3 kX3_carForNew_0 dX3_carForNew_56 ?_
        refine ty_Vi (As := []) (b := 4) (rest := []) X Y (cX1_addTrain_C l D cA q S4  _ h) rfl rfl (fun hts => cwV 0 hts gX3_carForNew_X1_addTrain rfl rfl rfl (by decide +kernel) ⟨Nat.le_of_ble_eq_true rfl, Nat.le_of_ble_eq_true rfl⟩) rfl hl.1 (Nat.le_of_ble_eq_true rfl) dX3_carForNew_59 ⟨Nat.zero_le _, Nat.zero_le _⟩ (fun r6 S6 H locs h Y => ?_)
        exact ty_iret X Y h dX3_carForNew_62
  · have h := ty_f h c9
    refine lv_aload_n hx hb dX3_carForNew_8 rfl (lv_at hl 0 rfl) ?_
    refine tg_X3_row X Y iX3_carForNew_X3 kX3_carForNew_0 dX3_carForNew_9 ?_
    refine lv_aload_n hx hb dX3_carForNew_12 rfl (lv_at hl 0 rfl) ?_
    refine tg_X3_row X Y iX3_carForNew_X3 kX3_carForNew_0 dX3_carForNew_13 ?_
    refine tn_X1_count (v := (S1 13 0)) X Y iX3_carForNew_X1 (ty_m 3 rfl) rfl dX3_carForNew_16 ?_
    refine lv_iconst (v := (1 : Int32)) hx hb dX3_carForNew_19 (by decide) ?_
    refine lv_isub hx hb dX3_carForNew_20 ?_
    refine ty_Vi (As := [.int ((S1 13 0) - (1 : Int32))]) (b := 4) (rest := []) X Y (cX1_carAt_C l D cA q S1 ((S1 13 0) - (1 : Int32)) _ h) rfl rfl (fun hts => cwV 1 hts gX3_carForNew_X1_carAt rfl rfl rfl (by decide +kernel) ⟨Nat.le_of_ble_eq_true rfl, Nat.le_of_ble_eq_true rfl⟩) rfl hl.1 (Nat.le_of_ble_eq_true rfl) dX3_carForNew_21 ⟨Nat.zero_le _, Nat.zero_le _⟩ (fun r7 S7 H locs h Y => ?_)
    exact ty_iret X Y h dX3_carForNew_24

abbrev rX3_nextRemembered : Room := { frames := 2, cells := 0, slots := 0, locals := 40 }
theorem kX3_nextRemembered_0 : Cond.fieldLink RX3 21 "TrainYard$Yard" "row" "LTrainYard$Row;" ∈ wsX3_nextRemembered := ty_m 1 (by decide +kernel)
theorem kX3_nextRemembered_1 : Cond.fieldLink RX3 12 "TrainYard$Yard" "freight" "LTrainYard$Freight;" ∈ wsX3_nextRemembered := ty_m 2 (by decide +kernel)
theorem kX3_nextRemembered_2 : Cond.initialized yX4_carOf.cls ∈ wsX3_nextRemembered := ty_m 23 (by decide +kernel)
theorem kX3_nextRemembered_3 : Cond.static yX4_carOf ∈ wsX3_nextRemembered := ty_m 22 (by decide +kernel)
theorem iX3_nextRemembered_X3 : ∀ w ∈ wsX30, w ∈ wsX3_nextRemembered := ty_inp _ [28, 29, 30, 31, 32, 33, 34, 35, 36, 37, 38, 39, 40] (by decide +kernel)
def jX3_nextRemembered_62 (K : ty_S → Int32 → Prop) (R19 : Int32 → Int32 → Int32 → ty_S → Prop) (x1 : Int32) (x3 : Int32) (x4 : Int32) (S : ty_S) : Prop :=
  (eX0_nextReference S (x4 + (1 : Int32)) (fun S5 r5 => R19 x1 x3 r5 S5))
set_option maxHeartbeats 4000000 in
set_option maxRecDepth 100000 in
theorem wjX3_nextRemembered_62 {p : Program} {l : Launch} {e : Env} {s : State} {m : MethodId} {args : Array Value} {below : List Frame} {meth : Method} {c : Code} {D : va_G} {cA : Nat → ClassId} {q : Nat → Nat} {K : ty_S → Int32 → Prop} {R19 : Int32 → Int32 → Int32 → ty_S → Prop} (X : ty_X D cA p s m args meth c cX3_nextRemembered 5 (some .int) wsX3_nextRemembered RX3) (hR19 : ∀ (x1 : Int32) (x3 : Int32) (x4 : Int32) (S : ty_S) (H : Heap) (locs : List Loc) (ls : Array Slot), R19 x1 x3 x4 S → ty_Y D cA q ty_LY S s H locs → lv_has ls 5 [(0, .ref (q 1)), (1, .int x1), (3, .int x3), (4, .int x4)] → W p l e rX3_nextRemembered s m args below meth c H locs 0 0 (ty_MI D cA q ty_LY K below args s) (F0 m 19 ls [])) (x1 : Int32) (x3 : Int32) (x4 : Int32) (S : ty_S) (H : Heap) (locs : List Loc) (ls : Array Slot) (h : jX3_nextRemembered_62 K R19 x1 x3 x4 S) (Y : ty_Y D cA q ty_LY S s H locs) (hl : lv_has ls 5 [(0, .ref (q 1)), (1, .int x1), (3, .int x3), (4, .int x4)]) : W p l e rX3_nextRemembered s m args below meth c H locs 0 0 (ty_MI D cA q ty_LY K below args s) (F0 m 62 ls []) := by
  have hx := X.1.1
  have hb := X.1.2.1
  unfold jX3_nextRemembered_62 at h
  refine lv_aload_n hx hb dX3_nextRemembered_62 rfl (lv_at hl 0 rfl) ?_
  refine tg_X3_freight X Y iX3_nextRemembered_X3 kX3_nextRemembered_1 dX3_nextRemembered_63 ?_
  refine lv_iload hx hb dX3_nextRemembered_66 (lv_at hl 3 rfl) ?_
  refine lv_iconst (v := (1 : Int32)) hx hb dX3_nextRemembered_68 (by decide) ?_
  refine lv_iadd hx hb dX3_nextRemembered_69 ?_
  refine ty_Vi (As := [.int (x4 + (1 : Int32))]) (b := 3) (rest := []) X Y (cX0_nextReference_C l D cA q S (x4 + (1 : Int32)) _ h) rfl rfl (fun hts => cwV 1 hts gX3_nextRemembered_X0_nextReference rfl rfl rfl (by decide +kernel) ⟨Nat.le_of_ble_eq_true rfl, Nat.le_of_ble_eq_true rfl⟩) rfl hl.1 (Nat.le_of_ble_eq_true rfl) dX3_nextRemembered_70 ⟨Nat.zero_le _, Nat.zero_le _⟩ (fun r5 S5 H locs h Y => ?_)
  refine lv_istore (lv' := [(4, .int r5), (0, .ref (q 1)), (1, .int x1), (3, .int x3)]) hx hb dX3_nextRemembered_73 hl (by decide) rfl (fun ls hl => ?_)
  refine lv_goto (tgt := 19) hx hb dX3_nextRemembered_75 (by decide) ?_
  exact hR19 _ _ _ _ _ _ _ h Y (lv_sub hl [1, 2, 3, 0] rfl)
def lX3_nextRemembered_19 (K : ty_S → Int32 → Prop)  : Nat → Int32 → Int32 → Int32 → ty_S → Prop
  | 0, _, _, _, _ => False
  | n + 1, x1, x3, x4, S => (if (1280 : Int32) ≤ x4 then K S (1280 : Int32) else (eX0_at S x4 (fun S3 r3 => (eX4_carOf S3 r3 (fun S4 r4 => (if r4 = x1 then (eX4_carOf S4 x4 (fun S6 r6 => (eX1_indexOf S6 r6 (fun S7 r7 => (if r7 ≤ x3 then jX3_nextRemembered_62 K (fun a0 a1 a2 S9 => lX3_nextRemembered_19 K  n a0 a1 a2 S9) x1 x3 x4 S7 else K S7 x4))))) else jX3_nextRemembered_62 K (fun a0 a1 a2 S9 => lX3_nextRemembered_19 K  n a0 a1 a2 S9) x1 x3 x4 S4))))))
set_option maxHeartbeats 4000000 in
set_option maxRecDepth 100000 in
theorem wlX3_nextRemembered_19 {p : Program} {l : Launch} {e : Env} {s : State} {m : MethodId} {args : Array Value} {below : List Frame} {meth : Method} {c : Code} {D : va_G} {cA : Nat → ClassId} {q : Nat → Nat} {K : ty_S → Int32 → Prop}  (X : ty_X D cA p s m args meth c cX3_nextRemembered 5 (some .int) wsX3_nextRemembered RX3)  : ∀ (n : Nat) (x1 : Int32) (x3 : Int32) (x4 : Int32) (S : ty_S) (H : Heap) (locs : List Loc) (ls : Array Slot), lX3_nextRemembered_19 K  n x1 x3 x4 S → ty_Y D cA q ty_LY S s H locs → lv_has ls 5 [(0, .ref (q 1)), (1, .int x1), (3, .int x3), (4, .int x4)] → W p l e rX3_nextRemembered s m args below meth c H locs 0 0 (ty_MI D cA q ty_LY K below args s) (F0 m 19 ls []) := by
  have hx := X.1.1
  have hb := X.1.2.1
  intro n
  induction n with
  | zero =>
    intro x1 x3 x4 S H locs ls h
    exact False.elim h
  | succ n ih =>
    intro x1 x3 x4 S H locs ls h Y hl
    unfold lX3_nextRemembered_19 at h
    refine lv_iload hx hb dX3_nextRemembered_19 (lv_at hl 3 rfl) ?_
    refine lv_sipush (v := (1280 : Int32)) hx hb dX3_nextRemembered_21 (by decide) ?_
    refine lv_icmp_ge (tgt := 78) hx hb dX3_nextRemembered_24 (by decide) (fun c9 => ?_) (fun c9 => ?_)
    · have h := ty_t h c9
      refine lv_sipush (v := (1280 : Int32)) hx hb dX3_nextRemembered_78 (by decide) ?_
      exact ty_iret X Y h dX3_nextRemembered_81
    · have h := ty_f h c9
      refine lv_aload_n hx hb dX3_nextRemembered_27 rfl (lv_at hl 0 rfl) ?_
      refine tg_X3_freight X Y iX3_nextRemembered_X3 kX3_nextRemembered_1 dX3_nextRemembered_28 ?_
      refine lv_iload hx hb dX3_nextRemembered_31 (lv_at hl 3 rfl) ?_
      refine ty_Vi (As := [.int x4]) (b := 3) (rest := []) X Y (cX0_at_C l D cA q S x4 _ h) rfl rfl (fun hts => cwV 1 hts gX3_nextRemembered_X0_at rfl rfl rfl (by decide +kernel) ⟨Nat.le_of_ble_eq_true rfl, Nat.le_of_ble_eq_true rfl⟩) rfl hl.1 (Nat.le_of_ble_eq_true rfl) dX3_nextRemembered_33 ⟨Nat.zero_le _, Nat.zero_le _⟩ (fun r3 S3 H locs h Y => ?_)
      refine ty_SNi (As := [.int r3]) (rest := []) X Y (cX4_carOf_C l D cA q S3 r3 _ h) (fun hts hN => ty_cwSN 1 hts hN gX3_nextRemembered_X4_carOf_n82 rfl (ty_m 14 rfl) kX3_nextRemembered_2 kX3_nextRemembered_3 rfl rfl (by decide +kernel) ⟨Nat.le_of_ble_eq_true rfl, Nat.le_of_ble_eq_true rfl⟩) rfl hl.1 (Nat.le_of_ble_eq_true rfl) dX3_nextRemembered_36 ⟨Nat.zero_le _, Nat.zero_le _⟩ (fun r4 S4 H locs h Y => ?_)
      refine lv_iload_n hx hb dX3_nextRemembered_39 rfl (lv_at hl 1 rfl) ?_
      refine lv_icmp_ne (tgt := 62) hx hb dX3_nextRemembered_40 (by decide) (fun c9 => ?_) (fun c9 => ?_)
      · have h := ty_f h c9
        exact wjX3_nextRemembered_62 X ih _ _ _ _ _ _ _ h Y (lv_sub hl [0, 1, 2, 3] rfl)
      · have h := ty_t h c9
        refine lv_aload_n hx hb dX3_nextRemembered_43 rfl (lv_at hl 0 rfl) ?_
        refine tg_X3_row X Y iX3_nextRemembered_X3 kX3_nextRemembered_0 dX3_nextRemembered_44 ?_
        refine lv_iload hx hb dX3_nextRemembered_47 (lv_at hl 3 rfl) ?_
        refine ty_SNi (As := [.int x4]) (rest := [.ref (q 4)]) X Y (cX4_carOf_C l D cA q S4 x4 _ h) (fun hts hN => ty_cwSN 1 hts hN gX3_nextRemembered_X4_carOf_n82 rfl (ty_m 14 rfl) kX3_nextRemembered_2 kX3_nextRemembered_3 rfl rfl (by decide +kernel) ⟨Nat.le_of_ble_eq_true rfl, Nat.le_of_ble_eq_true rfl⟩) rfl hl.1 (Nat.le_of_ble_eq_true rfl) dX3_nextRemembered_49 ⟨Nat.zero_le _, Nat.zero_le _⟩ (fun r6 S6 H locs h Y => ?_)
        refine ty_Vi (As := [.int r6]) (b := 4) (rest := []) X Y (cX1_indexOf_C l D cA q S6 r6 _ h) rfl rfl (fun hts => cwV 1 hts gX3_nextRemembered_X1_indexOf rfl rfl rfl (by decide +kernel) ⟨Nat.le_of_ble_eq_true rfl, Nat.le_of_ble_eq_true rfl⟩) rfl hl.1 (Nat.le_of_ble_eq_true rfl) dX3_nextRemembered_52 ⟨Nat.zero_le _, Nat.zero_le _⟩ (fun r7 S7 H locs h Y => ?_)
        refine lv_iload_n hx hb dX3_nextRemembered_55 rfl (lv_at hl 2 rfl) ?_
        refine lv_icmp_le (tgt := 62) hx hb dX3_nextRemembered_56 (by decide) (fun c9 => ?_) (fun c9 => ?_)
        · have h := ty_t h c9
          exact wjX3_nextRemembered_62 X ih _ _ _ _ _ _ _ h Y (lv_sub hl [0, 1, 2, 3] rfl)
        · have h := ty_f h c9
          refine lv_iload hx hb dX3_nextRemembered_59 (lv_at hl 3 rfl) ?_
          exact ty_iret X Y h dX3_nextRemembered_61
def eX3_nextRemembered (S : ty_S) (x1 : Int32) (x2 : Int32) (K : ty_S → Int32 → Prop) : Prop :=
  (eX1_indexOf S x1 (fun S1 r1 => (eX0_nextReference S1 x2 (fun S2 r2 => ∃ n9, lX3_nextRemembered_19 K  n9 x1 r1 r2 S2))))
set_option maxHeartbeats 4000000 in
set_option maxRecDepth 100000 in
theorem cX3_nextRemembered_C (l : Launch) (D : va_G) (cA : Nat → ClassId) (q : Nat → Nat) (S : ty_S) (x1 : Int32) (x2 : Int32) (K : ty_S → Int32 → Prop) (h : eX3_nextRemembered S x1 x2 K) : ∀ sz, Met l yX3_nextRemembered wsX3_nextRemembered rX3_nextRemembered (ty_Pc D cA q ty_LY S sz [.ref (q 1), .int x1, .int x2]) (ty_Qi D cA q ty_LY sz K) 0 0 (ty_A q ty_LY.length sz) := by
  refine ty_ofM (ret := (some .int)) (maxL := 5) (cc := cX3_nextRemembered) (own := RX3) (Qc := fun sz => ty_Qi D cA q ty_LY sz K) (by decide +kernel) rfl (Nat.le_of_ble_eq_true rfl) rfl ?_
  intro p e s m args below meth c ls X hl Y
  have hx := X.1.1
  have hb := X.1.2.1
  have hl : lv_has ls 5 [(0, .ref (q 1)), (1, .int x1), (2, .int x2)] := hl
  unfold eX3_nextRemembered at h
  refine lv_aload_n hx hb dX3_nextRemembered_0 rfl (lv_at hl 0 rfl) ?_
  refine tg_X3_row X Y iX3_nextRemembered_X3 kX3_nextRemembered_0 dX3_nextRemembered_1 ?_
  refine lv_iload_n hx hb dX3_nextRemembered_4 rfl (lv_at hl 1 rfl) ?_
  refine ty_Vi (As := [.int x1]) (b := 4) (rest := []) X Y (cX1_indexOf_C l D cA q S x1 _ h) rfl rfl (fun hts => cwV 1 hts gX3_nextRemembered_X1_indexOf rfl rfl rfl (by decide +kernel) ⟨Nat.le_of_ble_eq_true rfl, Nat.le_of_ble_eq_true rfl⟩) rfl hl.1 (Nat.le_of_ble_eq_true rfl) dX3_nextRemembered_5 ⟨Nat.zero_le _, Nat.zero_le _⟩ (fun r1 S1 H locs h Y => ?_)
  refine lv_istore_n (lv' := [(3, .int r1), (0, .ref (q 1)), (1, .int x1), (2, .int x2)]) hx hb dX3_nextRemembered_8 rfl hl (by decide) rfl (fun ls hl => ?_)
  refine lv_aload_n hx hb dX3_nextRemembered_9 rfl (lv_at hl 1 rfl) ?_
  refine tg_X3_freight X Y iX3_nextRemembered_X3 kX3_nextRemembered_1 dX3_nextRemembered_10 ?_
  refine lv_iload_n hx hb dX3_nextRemembered_13 rfl (lv_at hl 3 rfl) ?_
  refine ty_Vi (As := [.int x2]) (b := 3) (rest := []) X Y (cX0_nextReference_C l D cA q S1 x2 _ h) rfl rfl (fun hts => cwV 1 hts gX3_nextRemembered_X0_nextReference rfl rfl rfl (by decide +kernel) ⟨Nat.le_of_ble_eq_true rfl, Nat.le_of_ble_eq_true rfl⟩) rfl hl.1 (Nat.le_of_ble_eq_true rfl) dX3_nextRemembered_14 ⟨Nat.zero_le _, Nat.zero_le _⟩ (fun r2 S2 H locs h Y => ?_)
  refine lv_istore (lv' := [(4, .int r2), (3, .int r1), (0, .ref (q 1)), (1, .int x1), (2, .int x2)]) hx hb dX3_nextRemembered_17 hl (by decide) rfl (fun ls hl => ?_)
  obtain ⟨n9, h⟩ := h
  exact wlX3_nextRemembered_19 X  n9 _ _ _ _ _ _ _ h Y (lv_sub hl [2, 3, 1, 0] rfl)

abbrev rX3_countRemembered : Room := { frames := 3, cells := 0, slots := 0, locals := 64 }
def lX3_countRemembered_9 (K : ty_S → Int32 → Prop)  : Nat → Int32 → Int32 → Int32 → ty_S → Prop
  | 0, _, _, _, _ => False
  | n + 1, x1, x2, x3, S => (if (1280 : Int32) ≤ x3 then K S x2 else (eX3_nextRemembered S x1 (x3 + (1 : Int32)) (fun S2 r2 => lX3_countRemembered_9 K  n x1 (x2 + (1 : Int32)) r2 S2)))
set_option maxHeartbeats 4000000 in
set_option maxRecDepth 100000 in
theorem wlX3_countRemembered_9 {p : Program} {l : Launch} {e : Env} {s : State} {m : MethodId} {args : Array Value} {below : List Frame} {meth : Method} {c : Code} {D : va_G} {cA : Nat → ClassId} {q : Nat → Nat} {K : ty_S → Int32 → Prop}  (X : ty_X D cA p s m args meth c cX3_countRemembered 4 (some .int) wsX3_countRemembered RX3)  : ∀ (n : Nat) (x1 : Int32) (x2 : Int32) (x3 : Int32) (S : ty_S) (H : Heap) (locs : List Loc) (ls : Array Slot), lX3_countRemembered_9 K  n x1 x2 x3 S → ty_Y D cA q ty_LY S s H locs → lv_has ls 4 [(0, .ref (q 1)), (1, .int x1), (2, .int x2), (3, .int x3)] → W p l e rX3_countRemembered s m args below meth c H locs 0 0 (ty_MI D cA q ty_LY K below args s) (F0 m 9 ls []) := by
  have hx := X.1.1
  have hb := X.1.2.1
  intro n
  induction n with
  | zero =>
    intro x1 x2 x3 S H locs ls h
    exact False.elim h
  | succ n ih =>
    intro x1 x2 x3 S H locs ls h Y hl
    unfold lX3_countRemembered_9 at h
    refine lv_iload_n hx hb dX3_countRemembered_9 rfl (lv_at hl 3 rfl) ?_
    refine lv_sipush (v := (1280 : Int32)) hx hb dX3_countRemembered_10 (by decide) ?_
    refine lv_icmp_ge (tgt := 31) hx hb dX3_countRemembered_13 (by decide) (fun c9 => ?_) (fun c9 => ?_)
    · have h := ty_t h c9
      refine lv_iload_n hx hb dX3_countRemembered_31 rfl (lv_at hl 2 rfl) ?_
      exact ty_iret X Y h dX3_countRemembered_32
    · have h := ty_f h c9
      refine lv_iinc (v := (x2 + (1 : Int32))) (lv' := [(2, .int (x2 + (1 : Int32))), (0, .ref (q 1)), (1, .int x1), (3, .int x3)]) hx hb dX3_countRemembered_16 hl (k := 2) rfl rfl (by decide) rfl (fun ls hl => ?_)
      refine lv_aload_n hx hb dX3_countRemembered_19 rfl (lv_at hl 1 rfl) ?_
      refine lv_iload_n hx hb dX3_countRemembered_20 rfl (lv_at hl 2 rfl) ?_
      refine lv_iload_n hx hb dX3_countRemembered_21 rfl (lv_at hl 3 rfl) ?_
      refine lv_iconst (v := (1 : Int32)) hx hb dX3_countRemembered_22 (by decide) ?_
      refine lv_iadd hx hb dX3_countRemembered_23 ?_
      refine ty_Vi (As := [.int x1, .int (x3 + (1 : Int32))]) (b := 1) (rest := []) X Y (cX3_nextRemembered_C l D cA q S x1 (x3 + (1 : Int32)) _ h) rfl rfl (fun hts => cwV 2 hts gX3_countRemembered_X3_nextRemembered rfl rfl rfl (by decide +kernel) ⟨Nat.le_of_ble_eq_true rfl, Nat.le_of_ble_eq_true rfl⟩) rfl hl.1 (Nat.le_of_ble_eq_true rfl) dX3_countRemembered_24 ⟨Nat.zero_le _, Nat.zero_le _⟩ (fun r2 S2 H locs h Y => ?_)
      refine lv_istore_n (lv' := [(3, .int r2), (2, .int (x2 + (1 : Int32))), (0, .ref (q 1)), (1, .int x1)]) hx hb dX3_countRemembered_27 rfl hl (by decide) rfl (fun ls hl => ?_)
      refine lv_goto (tgt := 9) hx hb dX3_countRemembered_28 (by decide) ?_
      exact ih _ _ _ _ _ _ _ h Y (lv_sub hl [2, 3, 1, 0] rfl)
def eX3_countRemembered (S : ty_S) (x1 : Int32) (K : ty_S → Int32 → Prop) : Prop :=
  (eX3_nextRemembered S x1 (0 : Int32) (fun S1 r1 => ∃ n9, lX3_countRemembered_9 K  n9 x1 (0 : Int32) r1 S1))
set_option maxHeartbeats 4000000 in
set_option maxRecDepth 100000 in
theorem cX3_countRemembered_C (l : Launch) (D : va_G) (cA : Nat → ClassId) (q : Nat → Nat) (S : ty_S) (x1 : Int32) (K : ty_S → Int32 → Prop) (h : eX3_countRemembered S x1 K) : ∀ sz, Met l yX3_countRemembered wsX3_countRemembered rX3_countRemembered (ty_Pc D cA q ty_LY S sz [.ref (q 1), .int x1]) (ty_Qi D cA q ty_LY sz K) 0 0 (ty_A q ty_LY.length sz) := by
  refine ty_ofM (ret := (some .int)) (maxL := 4) (cc := cX3_countRemembered) (own := RX3) (Qc := fun sz => ty_Qi D cA q ty_LY sz K) (by decide +kernel) rfl (Nat.le_of_ble_eq_true rfl) rfl ?_
  intro p e s m args below meth c ls X hl Y
  have hx := X.1.1
  have hb := X.1.2.1
  have hl : lv_has ls 4 [(0, .ref (q 1)), (1, .int x1)] := hl
  unfold eX3_countRemembered at h
  refine lv_iconst (v := (0 : Int32)) hx hb dX3_countRemembered_0 (by decide) ?_
  refine lv_istore_n (lv' := [(2, .int (0 : Int32)), (0, .ref (q 1)), (1, .int x1)]) hx hb dX3_countRemembered_1 rfl hl (by decide) rfl (fun ls hl => ?_)
  refine lv_aload_n hx hb dX3_countRemembered_2 rfl (lv_at hl 1 rfl) ?_
  refine lv_iload_n hx hb dX3_countRemembered_3 rfl (lv_at hl 2 rfl) ?_
  refine lv_iconst (v := (0 : Int32)) hx hb dX3_countRemembered_4 (by decide) ?_
  refine ty_Vi (As := [.int x1, .int (0 : Int32)]) (b := 1) (rest := []) X Y (cX3_nextRemembered_C l D cA q S x1 (0 : Int32) _ h) rfl rfl (fun hts => cwV 2 hts gX3_countRemembered_X3_nextRemembered rfl rfl rfl (by decide +kernel) ⟨Nat.le_of_ble_eq_true rfl, Nat.le_of_ble_eq_true rfl⟩) rfl hl.1 (Nat.le_of_ble_eq_true rfl) dX3_countRemembered_5 ⟨Nat.zero_le _, Nat.zero_le _⟩ (fun r1 S1 H locs h Y => ?_)
  refine lv_istore_n (lv' := [(3, .int r1), (2, .int (0 : Int32)), (0, .ref (q 1)), (1, .int x1)]) hx hb dX3_countRemembered_8 rfl hl (by decide) rfl (fun ls hl => ?_)
  obtain ⟨n9, h⟩ := h
  exact wlX3_countRemembered_9 X  n9 _ _ _ _ _ _ _ h Y (lv_sub hl [2, 3, 1, 0] rfl)
