abbrev rX1_carAt : Room := { frames := 0, cells := 0, slots := 0, locals := 0 }
theorem kX1_carAt_0 : Cond.fieldLink RX1 18 "TrainYard$Row" "count" "I" ∈ wsX1_carAt := ty_m 1 (by decide +kernel)
theorem kX1_carAt_1 : Cond.fieldLink RX1 9 "TrainYard$Row" "cars" "[I" ∈ wsX1_carAt := ty_m 2 (by decide +kernel)
theorem iX1_carAt_X1 : ∀ w ∈ wsX10, w ∈ wsX1_carAt := ty_inp _ [3, 4, 5, 6] (by decide +kernel)
def eX1_carAt (S : ty_S) (x1 : Int32) (K : ty_S → Int32 → Prop) : Prop :=
  (if x1 < (0 : Int32) then K S (-1 : Int32) else (if (S 13 0) ≤ x1 then K S (-1 : Int32) else (vp_in x1 40 ∧ K S (S 5 x1.toNatClampNeg))))
set_option maxHeartbeats 4000000 in
set_option maxRecDepth 100000 in
theorem cX1_carAt_C (l : Launch) (D : va_G) (cA : Nat → ClassId) (q : Nat → Nat) (S : ty_S) (x1 : Int32) (K : ty_S → Int32 → Prop) (h : eX1_carAt S x1 K) : ∀ sz, Met l yX1_carAt wsX1_carAt rX1_carAt (ty_Pc D cA q ty_LY S sz [.ref (q 4), .int x1]) (ty_Qi D cA q ty_LY sz K) 0 0 (ty_A q ty_LY.length sz) := by
  refine ty_ofM (ret := (some .int)) (maxL := 2) (cc := cX1_carAt) (own := RX1) (Qc := fun sz => ty_Qi D cA q ty_LY sz K) (by decide +kernel) rfl (Nat.le_of_ble_eq_true rfl) rfl ?_
  intro p e s m args below meth c ls X hl Y
  have hx := X.1.1
  have hb := X.1.2.1
  have hl : lv_has ls 2 [(0, .ref (q 4)), (1, .int x1)] := hl
  unfold eX1_carAt at h
  refine lv_iload_n hx hb dX1_carAt_0 rfl (lv_at hl 1 rfl) ?_
  refine lv_if_lt (tgt := 21) hx hb dX1_carAt_1 (by decide) (fun c9 => ?_) (fun c9 => ?_)
  · have h := ty_t h c9
    refine lv_iconst (v := (-1 : Int32)) hx hb dX1_carAt_21 (by decide) ?_
    exact ty_iret X Y h dX1_carAt_22
  · have h := ty_f h c9
    refine lv_iload_n hx hb dX1_carAt_4 rfl (lv_at hl 1 rfl) ?_
    refine lv_aload_n hx hb dX1_carAt_5 rfl (lv_at hl 0 rfl) ?_
    refine tg_X1_count (v := (S 13 0)) X Y iX1_carAt_X1 kX1_carAt_0 rfl dX1_carAt_6 ?_
    refine lv_icmp_ge (tgt := 21) hx hb dX1_carAt_9 (by decide) (fun c9 => ?_) (fun c9 => ?_)
    · have h := ty_t h c9
      refine lv_iconst (v := (-1 : Int32)) hx hb dX1_carAt_21 (by decide) ?_
      exact ty_iret X Y h dX1_carAt_22
    · have h := ty_f h c9
      refine lv_aload_n hx hb dX1_carAt_12 rfl (lv_at hl 0 rfl) ?_
      refine tg_X1_cars X Y iX1_carAt_X1 kX1_carAt_1 dX1_carAt_13 ?_
      refine lv_iload_n hx hb dX1_carAt_16 rfl (lv_at hl 1 rfl) ?_
      refine ty_iald (v := (S 5 x1.toNatClampNeg)) X Y 15 40 5 rfl h.1 rfl dX1_carAt_17 ?_
      have h := h.2
      refine lv_goto (tgt := 22) hx hb dX1_carAt_18 (by decide) ?_
      exact ty_iret X Y h dX1_carAt_22

abbrev rX1_countFree : Room := { frames := 0, cells := 0, slots := 0, locals := 0 }
theorem kX1_countFree_0 : Cond.fieldLink RX1 18 "TrainYard$Row" "count" "I" ∈ wsX1_countFree := ty_m 1 (by decide +kernel)
theorem iX1_countFree_X1 : ∀ w ∈ wsX10, w ∈ wsX1_countFree := ty_inp _ [2, 3, 4, 5] (by decide +kernel)
def eX1_countFree (S : ty_S)  (K : ty_S → Int32 → Prop) : Prop :=
  K S ((40 : Int32) - (S 13 0))
set_option maxHeartbeats 4000000 in
set_option maxRecDepth 100000 in
theorem cX1_countFree_C (l : Launch) (D : va_G) (cA : Nat → ClassId) (q : Nat → Nat) (S : ty_S)  (K : ty_S → Int32 → Prop) (h : eX1_countFree S  K) : ∀ sz, Met l yX1_countFree wsX1_countFree rX1_countFree (ty_Pc D cA q ty_LY S sz [.ref (q 4)]) (ty_Qi D cA q ty_LY sz K) 0 0 (ty_A q ty_LY.length sz) := by
  refine ty_ofM (ret := (some .int)) (maxL := 1) (cc := cX1_countFree) (own := RX1) (Qc := fun sz => ty_Qi D cA q ty_LY sz K) (by decide +kernel) rfl (Nat.le_of_ble_eq_true rfl) rfl ?_
  intro p e s m args below meth c ls X hl Y
  have hx := X.1.1
  have hb := X.1.2.1
  have hl : lv_has ls 1 [(0, .ref (q 4))] := hl
  unfold eX1_countFree at h
  refine lv_bipush (v := (40 : Int32)) hx hb dX1_countFree_0 (by decide) ?_
  refine lv_aload_n hx hb dX1_countFree_2 rfl (lv_at hl 0 rfl) ?_
  refine tg_X1_count (v := (S 13 0)) X Y iX1_countFree_X1 kX1_countFree_0 rfl dX1_countFree_3 ?_
  refine lv_isub hx hb dX1_countFree_6 ?_
  exact ty_iret X Y h dX1_countFree_7

abbrev rX1_trainOf : Room := { frames := 0, cells := 0, slots := 0, locals := 0 }
theorem kX1_trainOf_0 : Cond.fieldLink RX1 15 "TrainYard$Row" "trains" "[I" ∈ wsX1_trainOf := ty_m 1 (by decide +kernel)
theorem iX1_trainOf_X1 : ∀ w ∈ wsX10, w ∈ wsX1_trainOf := ty_inp _ [2, 3, 4, 5] (by decide +kernel)
def eX1_trainOf (S : ty_S) (x1 : Int32) (K : ty_S → Int32 → Prop) : Prop :=
  (if x1 < (0 : Int32) then K S (0 : Int32) else (if (40 : Int32) ≤ x1 then K S (0 : Int32) else (vp_in x1 40 ∧ K S (S 6 x1.toNatClampNeg))))
set_option maxHeartbeats 4000000 in
set_option maxRecDepth 100000 in
theorem cX1_trainOf_C (l : Launch) (D : va_G) (cA : Nat → ClassId) (q : Nat → Nat) (S : ty_S) (x1 : Int32) (K : ty_S → Int32 → Prop) (h : eX1_trainOf S x1 K) : ∀ sz, Met l yX1_trainOf wsX1_trainOf rX1_trainOf (ty_Pc D cA q ty_LY S sz [.ref (q 4), .int x1]) (ty_Qi D cA q ty_LY sz K) 0 0 (ty_A q ty_LY.length sz) := by
  refine ty_ofM (ret := (some .int)) (maxL := 2) (cc := cX1_trainOf) (own := RX1) (Qc := fun sz => ty_Qi D cA q ty_LY sz K) (by decide +kernel) rfl (Nat.le_of_ble_eq_true rfl) rfl ?_
  intro p e s m args below meth c ls X hl Y
  have hx := X.1.1
  have hb := X.1.2.1
  have hl : lv_has ls 2 [(0, .ref (q 4)), (1, .int x1)] := hl
  unfold eX1_trainOf at h
  refine lv_iload_n hx hb dX1_trainOf_0 rfl (lv_at hl 1 rfl) ?_
  refine lv_if_lt (tgt := 19) hx hb dX1_trainOf_1 (by decide) (fun c9 => ?_) (fun c9 => ?_)
  · have h := ty_t h c9
    refine lv_iconst (v := (0 : Int32)) hx hb dX1_trainOf_19 (by decide) ?_
    exact ty_iret X Y h dX1_trainOf_20
  · have h := ty_f h c9
    refine lv_iload_n hx hb dX1_trainOf_4 rfl (lv_at hl 1 rfl) ?_
    refine lv_bipush (v := (40 : Int32)) hx hb dX1_trainOf_5 (by decide) ?_
    refine lv_icmp_ge (tgt := 19) hx hb dX1_trainOf_7 (by decide) (fun c9 => ?_) (fun c9 => ?_)
    · have h := ty_t h c9
      refine lv_iconst (v := (0 : Int32)) hx hb dX1_trainOf_19 (by decide) ?_
      exact ty_iret X Y h dX1_trainOf_20
    · have h := ty_f h c9
      refine lv_aload_n hx hb dX1_trainOf_10 rfl (lv_at hl 0 rfl) ?_
      refine tg_X1_trains X Y iX1_trainOf_X1 kX1_trainOf_0 dX1_trainOf_11 ?_
      refine lv_iload_n hx hb dX1_trainOf_14 rfl (lv_at hl 1 rfl) ?_
      refine ty_iald (v := (S 6 x1.toNatClampNeg)) X Y 16 40 6 rfl h.1 rfl dX1_trainOf_15 ?_
      have h := h.2
      refine lv_goto (tgt := 20) hx hb dX1_trainOf_16 (by decide) ?_
      exact ty_iret X Y h dX1_trainOf_20

abbrev rX1_firstTrain : Room := { frames := 1, cells := 0, slots := 0, locals := 21 }
def eX1_firstTrain (S : ty_S)  (K : ty_S → Int32 → Prop) : Prop :=
  (eX1_carAt S (0 : Int32) (fun S1 r1 => (eX1_trainOf S1 r1 (fun S2 r2 => K S2 r2))))
set_option maxHeartbeats 4000000 in
set_option maxRecDepth 100000 in
theorem cX1_firstTrain_C (l : Launch) (D : va_G) (cA : Nat → ClassId) (q : Nat → Nat) (S : ty_S)  (K : ty_S → Int32 → Prop) (h : eX1_firstTrain S  K) : ∀ sz, Met l yX1_firstTrain wsX1_firstTrain rX1_firstTrain (ty_Pc D cA q ty_LY S sz [.ref (q 4)]) (ty_Qi D cA q ty_LY sz K) 0 0 (ty_A q ty_LY.length sz) := by
  refine ty_ofM (ret := (some .int)) (maxL := 1) (cc := cX1_firstTrain) (own := RX1) (Qc := fun sz => ty_Qi D cA q ty_LY sz K) (by decide +kernel) rfl (Nat.le_of_ble_eq_true rfl) rfl ?_
  intro p e s m args below meth c ls X hl Y
  have hx := X.1.1
  have hb := X.1.2.1
  have hl : lv_has ls 1 [(0, .ref (q 4))] := hl
  unfold eX1_firstTrain at h
  refine lv_aload_n hx hb dX1_firstTrain_0 rfl (lv_at hl 0 rfl) ?_
  refine lv_aload_n hx hb dX1_firstTrain_1 rfl (lv_at hl 0 rfl) ?_
  refine lv_iconst (v := (0 : Int32)) hx hb dX1_firstTrain_2 (by decide) ?_
  refine ty_Vi (As := [.int (0 : Int32)]) (b := 4) (rest := [.ref (q 4)]) X Y (cX1_carAt_C l D cA q S (0 : Int32) _ h) rfl rfl (fun hts => cwV 1 hts gX1_firstTrain_X1_carAt rfl rfl rfl (by decide +kernel) ⟨Nat.le_of_ble_eq_true rfl, Nat.le_of_ble_eq_true rfl⟩) rfl hl.1 (Nat.le_of_ble_eq_true rfl) dX1_firstTrain_3 ⟨Nat.zero_le _, Nat.zero_le _⟩ (fun r1 S1 H locs h Y => ?_)
  refine ty_Vi (As := [.int r1]) (b := 4) (rest := []) X Y (cX1_trainOf_C l D cA q S1 r1 _ h) rfl rfl (fun hts => cwV 1 hts gX1_firstTrain_X1_trainOf rfl rfl rfl (by decide +kernel) ⟨Nat.le_of_ble_eq_true rfl, Nat.le_of_ble_eq_true rfl⟩) rfl hl.1 (Nat.le_of_ble_eq_true rfl) dX1_firstTrain_6 ⟨Nat.zero_le _, Nat.zero_le _⟩ (fun r2 S2 H locs h Y => ?_)
  exact ty_iret X Y h dX1_firstTrain_9

abbrev rX1_lastTrain : Room := { frames := 1, cells := 0, slots := 0, locals := 21 }
theorem kX1_lastTrain_0 : Cond.fieldLink RX1 18 "TrainYard$Row" "count" "I" ∈ wsX1_lastTrain := ty_m 1 (by decide +kernel)
theorem iX1_lastTrain_X1 : ∀ w ∈ wsX10, w ∈ wsX1_lastTrain := ty_inp _ [13, 14, 15, 16] (by decide +kernel)
def eX1_lastTrain (S : ty_S)  (K : ty_S → Int32 → Prop) : Prop :=
  (eX1_carAt S ((S 13 0) - (1 : Int32)) (fun S1 r1 => (eX1_trainOf S1 r1 (fun S2 r2 => K S2 r2))))
set_option maxHeartbeats 4000000 in
set_option maxRecDepth 100000 in
theorem cX1_lastTrain_C (l : Launch) (D : va_G) (cA : Nat → ClassId) (q : Nat → Nat) (S : ty_S)  (K : ty_S → Int32 → Prop) (h : eX1_lastTrain S  K) : ∀ sz, Met l yX1_lastTrain wsX1_lastTrain rX1_lastTrain (ty_Pc D cA q ty_LY S sz [.ref (q 4)]) (ty_Qi D cA q ty_LY sz K) 0 0 (ty_A q ty_LY.length sz) := by
  refine ty_ofM (ret := (some .int)) (maxL := 1) (cc := cX1_lastTrain) (own := RX1) (Qc := fun sz => ty_Qi D cA q ty_LY sz K) (by decide +kernel) rfl (Nat.le_of_ble_eq_true rfl) rfl ?_
  intro p e s m args below meth c ls X hl Y
  have hx := X.1.1
  have hb := X.1.2.1
  have hl : lv_has ls 1 [(0, .ref (q 4))] := hl
  unfold eX1_lastTrain at h
  refine lv_aload_n hx hb dX1_lastTrain_0 rfl (lv_at hl 0 rfl) ?_
  refine lv_aload_n hx hb dX1_lastTrain_1 rfl (lv_at hl 0 rfl) ?_
  refine lv_aload_n hx hb dX1_lastTrain_2 rfl (lv_at hl 0 rfl) ?_
  refine tg_X1_count (v := (S 13 0)) X Y iX1_lastTrain_X1 kX1_lastTrain_0 rfl dX1_lastTrain_3 ?_
  refine lv_iconst (v := (1 : Int32)) hx hb dX1_lastTrain_6 (by decide) ?_
  refine lv_isub hx hb dX1_lastTrain_7 ?_
  refine ty_Vi (As := [.int ((S 13 0) - (1 : Int32))]) (b := 4) (rest := [.ref (q 4)]) X Y (cX1_carAt_C l D cA q S ((S 13 0) - (1 : Int32)) _ h) rfl rfl (fun hts => cwV 1 hts gX1_lastTrain_X1_carAt rfl rfl rfl (by decide +kernel) ⟨Nat.le_of_ble_eq_true rfl, Nat.le_of_ble_eq_true rfl⟩) rfl hl.1 (Nat.le_of_ble_eq_true rfl) dX1_lastTrain_8 ⟨Nat.zero_le _, Nat.zero_le _⟩ (fun r1 S1 H locs h Y => ?_)
  refine ty_Vi (As := [.int r1]) (b := 4) (rest := []) X Y (cX1_trainOf_C l D cA q S1 r1 _ h) rfl rfl (fun hts => cwV 1 hts gX1_lastTrain_X1_trainOf rfl rfl rfl (by decide +kernel) ⟨Nat.le_of_ble_eq_true rfl, Nat.le_of_ble_eq_true rfl⟩) rfl hl.1 (Nat.le_of_ble_eq_true rfl) dX1_lastTrain_11 ⟨Nat.zero_le _, Nat.zero_le _⟩ (fun r2 S2 H locs h Y => ?_)
  exact ty_iret X Y h dX1_lastTrain_14

abbrev rX1_leastFree : Room := { frames := 0, cells := 0, slots := 0, locals := 0 }
theorem kX1_leastFree_0 : Cond.fieldLink RX1 15 "TrainYard$Row" "trains" "[I" ∈ wsX1_leastFree := ty_m 1 (by decide +kernel)
theorem iX1_leastFree_X1 : ∀ w ∈ wsX10, w ∈ wsX1_leastFree := ty_inp _ [2, 3, 4, 5] (by decide +kernel)
def lX1_leastFree_2 (K : ty_S → Int32 → Prop)  : Nat → Int32 → ty_S → Prop
  | 0, _, _ => False
  | n + 1, x1, S => (if (40 : Int32) ≤ x1 then K S (-1 : Int32) else (vp_in x1 40 ∧ (if (S 6 x1.toNatClampNeg) = (0 : Int32) then K S x1 else lX1_leastFree_2 K  n (x1 + (1 : Int32)) S)))
set_option maxHeartbeats 4000000 in
set_option maxRecDepth 100000 in
theorem wlX1_leastFree_2 {p : Program} {l : Launch} {e : Env} {s : State} {m : MethodId} {args : Array Value} {below : List Frame} {meth : Method} {c : Code} {D : va_G} {cA : Nat → ClassId} {q : Nat → Nat} {K : ty_S → Int32 → Prop}  (X : ty_X D cA p s m args meth c cX1_leastFree 2 (some .int) wsX1_leastFree RX1)  : ∀ (n : Nat) (x1 : Int32) (S : ty_S) (H : Heap) (locs : List Loc) (ls : Array Slot), lX1_leastFree_2 K  n x1 S → ty_Y D cA q ty_LY S s H locs → lv_has ls 2 [(0, .ref (q 4)), (1, .int x1)] → W p l e rX1_leastFree s m args below meth c H locs 0 0 (ty_MI D cA q ty_LY K below args s) (F0 m 2 ls []) := by
  have hx := X.1.1
  have hb := X.1.2.1
  intro n
  induction n with
  | zero =>
    intro x1 S H locs ls h
    exact False.elim h
  | succ n ih =>
    intro x1 S H locs ls h Y hl
    unfold lX1_leastFree_2 at h
    refine lv_iload_n hx hb dX1_leastFree_2 rfl (lv_at hl 1 rfl) ?_
    refine lv_bipush (v := (40 : Int32)) hx hb dX1_leastFree_3 (by decide) ?_
    refine lv_icmp_ge (tgt := 25) hx hb dX1_leastFree_5 (by decide) (fun c9 => ?_) (fun c9 => ?_)
    · have h := ty_t h c9
      refine lv_iconst (v := (-1 : Int32)) hx hb dX1_leastFree_25 (by decide) ?_
      exact ty_iret X Y h dX1_leastFree_26
    · have h := ty_f h c9
      refine lv_aload_n hx hb dX1_leastFree_8 rfl (lv_at hl 0 rfl) ?_
      refine tg_X1_trains X Y iX1_leastFree_X1 kX1_leastFree_0 dX1_leastFree_9 ?_
      refine lv_iload_n hx hb dX1_leastFree_12 rfl (lv_at hl 1 rfl) ?_
      refine ty_iald (v := (S 6 x1.toNatClampNeg)) X Y 16 40 6 rfl h.1 rfl dX1_leastFree_13 ?_
      have h := h.2
      refine lv_if_ne (tgt := 19) hx hb dX1_leastFree_14 (by decide) (fun c9 => ?_) (fun c9 => ?_)
      · have h := ty_f h c9
        refine lv_iinc (v := (x1 + (1 : Int32))) (lv' := [(1, .int (x1 + (1 : Int32))), (0, .ref (q 4))]) hx hb dX1_leastFree_19 hl (k := 1) rfl rfl (by decide) rfl (fun ls hl => ?_)
        refine lv_goto (tgt := 2) hx hb dX1_leastFree_22 (by decide) ?_
        exact ih _ _ _ _ _ h Y (lv_sub hl [1, 0] rfl)
      · have h := ty_t h c9
        refine lv_iload_n hx hb dX1_leastFree_17 rfl (lv_at hl 1 rfl) ?_
        exact ty_iret X Y h dX1_leastFree_18
def eX1_leastFree (S : ty_S)  (K : ty_S → Int32 → Prop) : Prop :=
  ∃ n9, lX1_leastFree_2 K  n9 (0 : Int32) S
set_option maxHeartbeats 4000000 in
set_option maxRecDepth 100000 in
theorem cX1_leastFree_C (l : Launch) (D : va_G) (cA : Nat → ClassId) (q : Nat → Nat) (S : ty_S)  (K : ty_S → Int32 → Prop) (h : eX1_leastFree S  K) : ∀ sz, Met l yX1_leastFree wsX1_leastFree rX1_leastFree (ty_Pc D cA q ty_LY S sz [.ref (q 4)]) (ty_Qi D cA q ty_LY sz K) 0 0 (ty_A q ty_LY.length sz) := by
  refine ty_ofM (ret := (some .int)) (maxL := 2) (cc := cX1_leastFree) (own := RX1) (Qc := fun sz => ty_Qi D cA q ty_LY sz K) (by decide +kernel) rfl (Nat.le_of_ble_eq_true rfl) rfl ?_
  intro p e s m args below meth c ls X hl Y
  have hx := X.1.1
  have hb := X.1.2.1
  have hl : lv_has ls 2 [(0, .ref (q 4))] := hl
  unfold eX1_leastFree at h
  refine lv_iconst (v := (0 : Int32)) hx hb dX1_leastFree_0 (by decide) ?_
  refine lv_istore_n (lv' := [(1, .int (0 : Int32)), (0, .ref (q 4))]) hx hb dX1_leastFree_1 rfl hl (by decide) rfl (fun ls hl => ?_)
  obtain ⟨n9, h⟩ := h
  exact wlX1_leastFree_2 X  n9 _ _ _ _ _ h Y (lv_sub hl [1, 0] rfl)

abbrev rX1_addCar : Room := { frames := 1, cells := 0, slots := 0, locals := 21 }
theorem kX1_addCar_0 : Cond.fieldLink RX1 18 "TrainYard$Row" "count" "I" ∈ wsX1_addCar := ty_m 1 (by decide +kernel)
theorem kX1_addCar_1 : Cond.fieldLink RX1 9 "TrainYard$Row" "cars" "[I" ∈ wsX1_addCar := ty_m 2 (by decide +kernel)
theorem kX1_addCar_2 : Cond.fieldLink RX1 15 "TrainYard$Row" "trains" "[I" ∈ wsX1_addCar := ty_m 3 (by decide +kernel)
theorem iX1_addCar_X1 : ∀ w ∈ wsX10, w ∈ wsX1_addCar := ty_inp _ [13, 14, 15, 16] (by decide +kernel)
def jX1_addCar_66 (K : ty_S → Int32 → Prop)  (x1 : Int32) (x2 : Int32) (x3 : Int32) (S : ty_S) : Prop :=
  (vp_in x3 40 ∧ (vp_in x2 40 ∧ K (ty_st (ty_st (ty_st S 5 x3.toNatClampNeg x2) 6 x2.toNatClampNeg x1) 13 0 ((S 13 0) + (1 : Int32))) x2))
set_option maxHeartbeats 4000000 in
set_option maxRecDepth 100000 in
theorem wjX1_addCar_66 {p : Program} {l : Launch} {e : Env} {s : State} {m : MethodId} {args : Array Value} {below : List Frame} {meth : Method} {c : Code} {D : va_G} {cA : Nat → ClassId} {q : Nat → Nat} {K : ty_S → Int32 → Prop}  (X : ty_X D cA p s m args meth c cX1_addCar 4 (some .int) wsX1_addCar RX1)  (x1 : Int32) (x2 : Int32) (x3 : Int32) (S : ty_S) (H : Heap) (locs : List Loc) (ls : Array Slot) (h : jX1_addCar_66 K  x1 x2 x3 S) (Y : ty_Y D cA q ty_LY S s H locs) (hl : lv_has ls 4 [(0, .ref (q 4)), (1, .int x1), (2, .int x2), (3, .int x3)]) : W p l e rX1_addCar s m args below meth c H locs 0 0 (ty_MI D cA q ty_LY K below args s) (F0 m 66 ls []) := by
  have hx := X.1.1
  have hb := X.1.2.1
  unfold jX1_addCar_66 at h
  refine lv_aload_n hx hb dX1_addCar_66 rfl (lv_at hl 0 rfl) ?_
  refine tg_X1_cars X Y iX1_addCar_X1 kX1_addCar_1 dX1_addCar_67 ?_
  refine lv_iload_n hx hb dX1_addCar_70 rfl (lv_at hl 3 rfl) ?_
  refine lv_iload_n hx hb dX1_addCar_71 rfl (lv_at hl 2 rfl) ?_
  refine ty_iast X Y 15 40 5 rfl (by decide) h.1 dX1_addCar_72 (fun H locs Y => ?_)
  have h := h.2
  refine lv_aload_n hx hb dX1_addCar_73 rfl (lv_at hl 0 rfl) ?_
  refine tg_X1_trains X Y iX1_addCar_X1 kX1_addCar_2 dX1_addCar_74 ?_
  refine lv_iload_n hx hb dX1_addCar_77 rfl (lv_at hl 2 rfl) ?_
  refine lv_iload_n hx hb dX1_addCar_78 rfl (lv_at hl 1 rfl) ?_
  refine ty_iast X Y 16 40 6 rfl (by decide) h.1 dX1_addCar_79 (fun H locs Y => ?_)
  have h := h.2
  refine lv_aload_n hx hb dX1_addCar_80 rfl (lv_at hl 0 rfl) ?_
  refine lv_dup hx hb dX1_addCar_81 rfl ?_
  refine tg_X1_count (v := (S 13 0)) X Y iX1_addCar_X1 kX1_addCar_0 rfl dX1_addCar_82 ?_
  refine lv_iconst (v := (1 : Int32)) hx hb dX1_addCar_85 (by decide) ?_
  refine lv_iadd hx hb dX1_addCar_86 ?_
  refine tp_X1_count X Y iX1_addCar_X1 kX1_addCar_0 dX1_addCar_87 (fun H locs Y => ?_)
  refine lv_iload_n hx hb dX1_addCar_90 rfl (lv_at hl 2 rfl) ?_
  exact ty_iret X Y h dX1_addCar_91
def lX1_addCar_26 (K : ty_S → Int32 → Prop)  : Nat → Int32 → Int32 → Int32 → ty_S → Prop
  | 0, _, _, _, _ => False
  | n + 1, x1, x2, x3, S => (if x3 ≤ (0 : Int32) then jX1_addCar_66 K  x1 x2 x3 S else (vp_in (x3 - (1 : Int32)) 40 ∧ (eX1_trainOf S (S 5 (x3 - (1 : Int32)).toNatClampNeg) (fun S2 r2 => (if r2 ≤ x1 then jX1_addCar_66 K  x1 x2 x3 S2 else (vp_in (x3 - (1 : Int32)) 40 ∧ (vp_in x3 40 ∧ lX1_addCar_26 K  n x1 x2 (x3 + (-1 : Int32)) (ty_st S2 5 x3.toNatClampNeg (S2 5 (x3 - (1 : Int32)).toNatClampNeg)))))))))
set_option maxHeartbeats 4000000 in
set_option maxRecDepth 100000 in
theorem wlX1_addCar_26 {p : Program} {l : Launch} {e : Env} {s : State} {m : MethodId} {args : Array Value} {below : List Frame} {meth : Method} {c : Code} {D : va_G} {cA : Nat → ClassId} {q : Nat → Nat} {K : ty_S → Int32 → Prop}  (X : ty_X D cA p s m args meth c cX1_addCar 4 (some .int) wsX1_addCar RX1)  : ∀ (n : Nat) (x1 : Int32) (x2 : Int32) (x3 : Int32) (S : ty_S) (H : Heap) (locs : List Loc) (ls : Array Slot), lX1_addCar_26 K  n x1 x2 x3 S → ty_Y D cA q ty_LY S s H locs → lv_has ls 4 [(0, .ref (q 4)), (1, .int x1), (2, .int x2), (3, .int x3)] → W p l e rX1_addCar s m args below meth c H locs 0 0 (ty_MI D cA q ty_LY K below args s) (F0 m 26 ls []) := by
  have hx := X.1.1
  have hb := X.1.2.1
  intro n
  induction n with
  | zero =>
    intro x1 x2 x3 S H locs ls h
    exact False.elim h
  | succ n ih =>
    intro x1 x2 x3 S H locs ls h Y hl
    unfold lX1_addCar_26 at h
    refine lv_iload_n hx hb dX1_addCar_26 rfl (lv_at hl 3 rfl) ?_
    refine lv_if_le (tgt := 66) hx hb dX1_addCar_27 (by decide) (fun c9 => ?_) (fun c9 => ?_)
    · have h := ty_t h c9
      exact wjX1_addCar_66 X  _ _ _ _ _ _ _ h Y (lv_sub hl [0, 1, 2, 3] rfl)
    · have h := ty_f h c9
      refine lv_aload_n hx hb dX1_addCar_30 rfl (lv_at hl 0 rfl) ?_
      refine lv_aload_n hx hb dX1_addCar_31 rfl (lv_at hl 0 rfl) ?_
      refine tg_X1_cars X Y iX1_addCar_X1 kX1_addCar_1 dX1_addCar_32 ?_
      refine lv_iload_n hx hb dX1_addCar_35 rfl (lv_at hl 3 rfl) ?_
      refine lv_iconst (v := (1 : Int32)) hx hb dX1_addCar_36 (by decide) ?_
      refine lv_isub hx hb dX1_addCar_37 ?_
      refine ty_iald (v := (S 5 (x3 - (1 : Int32)).toNatClampNeg)) X Y 15 40 5 rfl h.1 rfl dX1_addCar_38 ?_
      have h := h.2
      refine ty_Vi (As := [.int (S 5 (x3 - (1 : Int32)).toNatClampNeg)]) (b := 4) (rest := []) X Y (cX1_trainOf_C l D cA q S (S 5 (x3 - (1 : Int32)).toNatClampNeg) _ h) rfl rfl (fun hts => cwV 1 hts gX1_addCar_X1_trainOf rfl rfl rfl (by decide +kernel) ⟨Nat.le_of_ble_eq_true rfl, Nat.le_of_ble_eq_true rfl⟩) rfl hl.1 (Nat.le_of_ble_eq_true rfl) dX1_addCar_39 ⟨Nat.zero_le _, Nat.zero_le _⟩ (fun r2 S2 H locs h Y => ?_)
      refine lv_iload_n hx hb dX1_addCar_42 rfl (lv_at hl 1 rfl) ?_
      refine lv_icmp_le (tgt := 66) hx hb dX1_addCar_43 (by decide) (fun c9 => ?_) (fun c9 => ?_)
      · have h := ty_t h c9
        exact wjX1_addCar_66 X  _ _ _ _ _ _ _ h Y (lv_sub hl [0, 1, 2, 3] rfl)
      · have h := ty_f h c9
        refine lv_aload_n hx hb dX1_addCar_46 rfl (lv_at hl 0 rfl) ?_
        refine tg_X1_cars X Y iX1_addCar_X1 kX1_addCar_1 dX1_addCar_47 ?_
        refine lv_iload_n hx hb dX1_addCar_50 rfl (lv_at hl 3 rfl) ?_
        refine lv_aload_n hx hb dX1_addCar_51 rfl (lv_at hl 0 rfl) ?_
        refine tg_X1_cars X Y iX1_addCar_X1 kX1_addCar_1 dX1_addCar_52 ?_
        refine lv_iload_n hx hb dX1_addCar_55 rfl (lv_at hl 3 rfl) ?_
        refine lv_iconst (v := (1 : Int32)) hx hb dX1_addCar_56 (by decide) ?_
        refine lv_isub hx hb dX1_addCar_57 ?_
        refine ty_iald (v := (S2 5 (x3 - (1 : Int32)).toNatClampNeg)) X Y 15 40 5 rfl h.1 rfl dX1_addCar_58 ?_
        have h := h.2
        refine ty_iast X Y 15 40 5 rfl (by decide) h.1 dX1_addCar_59 (fun H locs Y => ?_)
        have h := h.2
        refine lv_iinc (v := (x3 + (-1 : Int32))) (lv' := [(3, .int (x3 + (-1 : Int32))), (0, .ref (q 4)), (1, .int x1), (2, .int x2)]) hx hb dX1_addCar_60 hl (k := 3) rfl rfl (by decide) rfl (fun ls hl => ?_)
        refine lv_goto (tgt := 26) hx hb dX1_addCar_63 (by decide) ?_
        exact ih _ _ _ _ _ _ _ h Y (lv_sub hl [1, 2, 3, 0] rfl)
def eX1_addCar (S : ty_S) (x1 : Int32) (K : ty_S → Int32 → Prop) : Prop :=
  (eX1_leastFree S  (fun S1 r1 => (if r1 = (-1 : Int32) then K S1 (-1 : Int32) else (if (S1 13 0) < (40 : Int32) then ∃ n9, lX1_addCar_26 K  n9 x1 r1 (S1 13 0) S1 else K S1 (-1 : Int32)))))
set_option maxHeartbeats 4000000 in
set_option maxRecDepth 100000 in
theorem cX1_addCar_C (l : Launch) (D : va_G) (cA : Nat → ClassId) (q : Nat → Nat) (S : ty_S) (x1 : Int32) (K : ty_S → Int32 → Prop) (h : eX1_addCar S x1 K) : ∀ sz, Met l yX1_addCar wsX1_addCar rX1_addCar (ty_Pc D cA q ty_LY S sz [.ref (q 4), .int x1]) (ty_Qi D cA q ty_LY sz K) 0 0 (ty_A q ty_LY.length sz) := by
  refine ty_ofM (ret := (some .int)) (maxL := 4) (cc := cX1_addCar) (own := RX1) (Qc := fun sz => ty_Qi D cA q ty_LY sz K) (by decide +kernel) rfl (Nat.le_of_ble_eq_true rfl) rfl ?_
  intro p e s m args below meth c ls X hl Y
  have hx := X.1.1
  have hb := X.1.2.1
  have hl : lv_has ls 4 [(0, .ref (q 4)), (1, .int x1)] := hl
  unfold eX1_addCar at h
  refine lv_aload_n hx hb dX1_addCar_0 rfl (lv_at hl 0 rfl) ?_
  refine ty_Vi (As := []) (b := 4) (rest := []) X Y (cX1_leastFree_C l D cA q S  _ h) rfl rfl (fun hts => cwV 0 hts gX1_addCar_X1_leastFree rfl rfl rfl (by decide +kernel) ⟨Nat.le_of_ble_eq_true rfl, Nat.le_of_ble_eq_true rfl⟩) rfl hl.1 (Nat.le_of_ble_eq_true rfl) dX1_addCar_1 ⟨Nat.zero_le _, Nat.zero_le _⟩ (fun r1 S1 H locs h Y => ?_)
  refine lv_istore_n (lv' := [(2, .int r1), (0, .ref (q 4)), (1, .int x1)]) hx hb dX1_addCar_4 rfl hl (by decide) rfl (fun ls hl => ?_)
  refine lv_iload_n hx hb dX1_addCar_5 rfl (lv_at hl 0 rfl) ?_
  refine lv_iconst (v := (-1 : Int32)) hx hb dX1_addCar_6 (by decide) ?_
  refine lv_icmp_eq (tgt := 19) hx hb dX1_addCar_7 (by decide) (fun c9 => ?_) (fun c9 => ?_)
  · have h := ty_t h c9
    refine lv_iconst (v := (-1 : Int32)) hx hb dX1_addCar_19 (by decide) ?_
    exact ty_iret X Y h dX1_addCar_20
  · have h := ty_f h c9
    refine lv_aload_n hx hb dX1_addCar_10 rfl (lv_at hl 1 rfl) ?_
    refine tg_X1_count (v := (S1 13 0)) X Y iX1_addCar_X1 kX1_addCar_0 rfl dX1_addCar_11 ?_
    refine lv_bipush (v := (40 : Int32)) hx hb dX1_addCar_14 (by decide) ?_
    refine lv_icmp_lt (tgt := 21) hx hb dX1_addCar_16 (by decide) (fun c9 => ?_) (fun c9 => ?_)
    · have h := ty_t h c9
      refine lv_aload_n hx hb dX1_addCar_21 rfl (lv_at hl 1 rfl) ?_
      refine tg_X1_count (v := (S1 13 0)) X Y iX1_addCar_X1 kX1_addCar_0 rfl dX1_addCar_22 ?_
      refine lv_istore_n (lv' := [(3, .int (S1 13 0)), (2, .int r1), (0, .ref (q 4)), (1, .int x1)]) hx hb dX1_addCar_25 rfl hl (by decide) rfl (fun ls hl => ?_)
      obtain ⟨n9, h⟩ := h
      exact wlX1_addCar_26 X  n9 _ _ _ _ _ _ _ h Y (lv_sub hl [2, 3, 1, 0] rfl)
    · have h := ty_f h c9
      refine lv_iconst (v := (-1 : Int32)) hx hb dX1_addCar_19 (by decide) ?_
      exact ty_iret X Y h dX1_addCar_20

abbrev rX1_addTrain : Room := { frames := 2, cells := 0, slots := 0, locals := 44 }
theorem kX1_addTrain_0 : Cond.fieldLink RX1 22 "TrainYard$Row" "trainsMade" "I" ∈ wsX1_addTrain := ty_m 1 (by decide +kernel)
theorem iX1_addTrain_X1 : ∀ w ∈ wsX10, w ∈ wsX1_addTrain := ty_inp _ [22, 23, 24, 25] (by decide +kernel)
def eX1_addTrain (S : ty_S)  (K : ty_S → Int32 → Prop) : Prop :=
  (eX1_countFree S  (fun S1 r1 => (if r1 = (0 : Int32) then K S1 (-1 : Int32) else (eX1_addCar (ty_st S1 14 0 ((S1 14 0) + (1 : Int32))) ((S1 14 0) + (1 : Int32)) (fun S2 r2 => K S2 r2)))))
set_option maxHeartbeats 4000000 in
set_option maxRecDepth 100000 in
theorem cX1_addTrain_C (l : Launch) (D : va_G) (cA : Nat → ClassId) (q : Nat → Nat) (S : ty_S)  (K : ty_S → Int32 → Prop) (h : eX1_addTrain S  K) : ∀ sz, Met l yX1_addTrain wsX1_addTrain rX1_addTrain (ty_Pc D cA q ty_LY S sz [.ref (q 4)]) (ty_Qi D cA q ty_LY sz K) 0 0 (ty_A q ty_LY.length sz) := by
  refine ty_ofM (ret := (some .int)) (maxL := 1) (cc := cX1_addTrain) (own := RX1) (Qc := fun sz => ty_Qi D cA q ty_LY sz K) (by decide +kernel) rfl (Nat.le_of_ble_eq_true rfl) rfl ?_
  intro p e s m args below meth c ls X hl Y
  have hx := X.1.1
  have hb := X.1.2.1
  have hl : lv_has ls 1 [(0, .ref (q 4))] := hl
  unfold eX1_addTrain at h
  refine lv_aload_n hx hb dX1_addTrain_0 rfl (lv_at hl 0 rfl) ?_
  refine ty_Vi (As := []) (b := 4) (rest := []) X Y (cX1_countFree_C l D cA q S  _ h) rfl rfl (fun hts => cwV 0 hts gX1_addTrain_X1_countFree rfl rfl rfl (by decide +kernel) ⟨Nat.le_of_ble_eq_true rfl, Nat.le_of_ble_eq_true rfl⟩) rfl hl.1 (Nat.le_of_ble_eq_true rfl) dX1_addTrain_1 ⟨Nat.zero_le _, Nat.zero_le _⟩ (fun r1 S1 H locs h Y => ?_)
  refine lv_if_ne (tgt := 9) hx hb dX1_addTrain_4 (by decide) (fun c9 => ?_) (fun c9 => ?_)
  · have h := ty_f h c9
    refine lv_aload_n hx hb dX1_addTrain_9 rfl (lv_at hl 0 rfl) ?_
    refine lv_dup hx hb dX1_addTrain_10 rfl ?_
    refine tg_X1_trainsMade (v := (S1 14 0)) X Y iX1_addTrain_X1 kX1_addTrain_0 rfl dX1_addTrain_11 ?_
    refine lv_iconst (v := (1 : Int32)) hx hb dX1_addTrain_14 (by decide) ?_
    refine lv_iadd hx hb dX1_addTrain_15 ?_
    refine tp_X1_trainsMade X Y iX1_addTrain_X1 kX1_addTrain_0 dX1_addTrain_16 (fun H locs Y => ?_)
    refine lv_aload_n hx hb dX1_addTrain_19 rfl (lv_at hl 0 rfl) ?_
    refine lv_aload_n hx hb dX1_addTrain_20 rfl (lv_at hl 0 rfl) ?_
    refine tg_X1_trainsMade (v := ((S1 14 0) + (1 : Int32))) X Y iX1_addTrain_X1 kX1_addTrain_0 rfl dX1_addTrain_21 ?_
    refine ty_Vi (As := [.int ((S1 14 0) + (1 : Int32))]) (b := 4) (rest := []) X Y (cX1_addCar_C l D cA q (ty_st S1 14 0 ((S1 14 0) + (1 : Int32))) ((S1 14 0) + (1 : Int32)) _ h) rfl rfl (fun hts => cwV 1 hts gX1_addTrain_X1_addCar rfl rfl rfl (by decide +kernel) ⟨Nat.le_of_ble_eq_true rfl, Nat.le_of_ble_eq_true rfl⟩) rfl hl.1 (Nat.le_of_ble_eq_true rfl) dX1_addTrain_24 ⟨Nat.zero_le _, Nat.zero_le _⟩ (fun r2 S2 H locs h Y => ?_)
    exact ty_iret X Y h dX1_addTrain_27
  · have h := ty_t h c9
    refine lv_iconst (v := (-1 : Int32)) hx hb dX1_addTrain_7 (by decide) ?_
    exact ty_iret X Y h dX1_addTrain_8

abbrev rX1_lastCarOf : Room := { frames := 1, cells := 0, slots := 0, locals := 21 }
theorem kX1_lastCarOf_0 : Cond.fieldLink RX1 18 "TrainYard$Row" "count" "I" ∈ wsX1_lastCarOf := ty_m 1 (by decide +kernel)
theorem kX1_lastCarOf_1 : Cond.fieldLink RX1 9 "TrainYard$Row" "cars" "[I" ∈ wsX1_lastCarOf := ty_m 2 (by decide +kernel)
theorem iX1_lastCarOf_X1 : ∀ w ∈ wsX10, w ∈ wsX1_lastCarOf := ty_inp _ [9, 10, 11, 12] (by decide +kernel)
def lX1_lastCarOf_7 (K : ty_S → Int32 → Prop)  : Nat → Int32 → Int32 → ty_S → Prop
  | 0, _, _, _ => False
  | n + 1, x1, x2, S => (if x2 < (0 : Int32) then K S (-1 : Int32) else (vp_in x2 40 ∧ (eX1_trainOf S (S 5 x2.toNatClampNeg) (fun S1 r1 => (if r1 = x1 then (vp_in x2 40 ∧ K S1 (S1 5 x2.toNatClampNeg)) else lX1_lastCarOf_7 K  n x1 (x2 + (-1 : Int32)) S1)))))
set_option maxHeartbeats 4000000 in
set_option maxRecDepth 100000 in
theorem wlX1_lastCarOf_7 {p : Program} {l : Launch} {e : Env} {s : State} {m : MethodId} {args : Array Value} {below : List Frame} {meth : Method} {c : Code} {D : va_G} {cA : Nat → ClassId} {q : Nat → Nat} {K : ty_S → Int32 → Prop}  (X : ty_X D cA p s m args meth c cX1_lastCarOf 3 (some .int) wsX1_lastCarOf RX1)  : ∀ (n : Nat) (x1 : Int32) (x2 : Int32) (S : ty_S) (H : Heap) (locs : List Loc) (ls : Array Slot), lX1_lastCarOf_7 K  n x1 x2 S → ty_Y D cA q ty_LY S s H locs → lv_has ls 3 [(0, .ref (q 4)), (1, .int x1), (2, .int x2)] → W p l e rX1_lastCarOf s m args below meth c H locs 0 0 (ty_MI D cA q ty_LY K below args s) (F0 m 7 ls []) := by
  have hx := X.1.1
  have hb := X.1.2.1
  intro n
  induction n with
  | zero =>
    intro x1 x2 S H locs ls h
    exact False.elim h
  | succ n ih =>
    intro x1 x2 S H locs ls h Y hl
    unfold lX1_lastCarOf_7 at h
    refine lv_iload_n hx hb dX1_lastCarOf_7 rfl (lv_at hl 2 rfl) ?_
    refine lv_if_lt (tgt := 38) hx hb dX1_lastCarOf_8 (by decide) (fun c9 => ?_) (fun c9 => ?_)
    · have h := ty_t h c9
      refine lv_iconst (v := (-1 : Int32)) hx hb dX1_lastCarOf_38 (by decide) ?_
      exact ty_iret X Y h dX1_lastCarOf_39
    · have h := ty_f h c9
      refine lv_aload_n hx hb dX1_lastCarOf_11 rfl (lv_at hl 0 rfl) ?_
      refine lv_aload_n hx hb dX1_lastCarOf_12 rfl (lv_at hl 0 rfl) ?_
      refine tg_X1_cars X Y iX1_lastCarOf_X1 kX1_lastCarOf_1 dX1_lastCarOf_13 ?_
      refine lv_iload_n hx hb dX1_lastCarOf_16 rfl (lv_at hl 2 rfl) ?_
      refine ty_iald (v := (S 5 x2.toNatClampNeg)) X Y 15 40 5 rfl h.1 rfl dX1_lastCarOf_17 ?_
      have h := h.2
      refine ty_Vi (As := [.int (S 5 x2.toNatClampNeg)]) (b := 4) (rest := []) X Y (cX1_trainOf_C l D cA q S (S 5 x2.toNatClampNeg) _ h) rfl rfl (fun hts => cwV 1 hts gX1_lastCarOf_X1_trainOf rfl rfl rfl (by decide +kernel) ⟨Nat.le_of_ble_eq_true rfl, Nat.le_of_ble_eq_true rfl⟩) rfl hl.1 (Nat.le_of_ble_eq_true rfl) dX1_lastCarOf_18 ⟨Nat.zero_le _, Nat.zero_le _⟩ (fun r1 S1 H locs h Y => ?_)
      refine lv_iload_n hx hb dX1_lastCarOf_21 rfl (lv_at hl 1 rfl) ?_
      refine lv_icmp_ne (tgt := 32) hx hb dX1_lastCarOf_22 (by decide) (fun c9 => ?_) (fun c9 => ?_)
      · have h := ty_f h c9
        refine lv_iinc (v := (x2 + (-1 : Int32))) (lv' := [(2, .int (x2 + (-1 : Int32))), (0, .ref (q 4)), (1, .int x1)]) hx hb dX1_lastCarOf_32 hl (k := 2) rfl rfl (by decide) rfl (fun ls hl => ?_)
        refine lv_goto (tgt := 7) hx hb dX1_lastCarOf_35 (by decide) ?_
        exact ih _ _ _ _ _ _ h Y (lv_sub hl [1, 2, 0] rfl)
      · have h := ty_t h c9
        refine lv_aload_n hx hb dX1_lastCarOf_25 rfl (lv_at hl 0 rfl) ?_
        refine tg_X1_cars X Y iX1_lastCarOf_X1 kX1_lastCarOf_1 dX1_lastCarOf_26 ?_
        refine lv_iload_n hx hb dX1_lastCarOf_29 rfl (lv_at hl 2 rfl) ?_
        refine ty_iald (v := (S1 5 x2.toNatClampNeg)) X Y 15 40 5 rfl h.1 rfl dX1_lastCarOf_30 ?_
        have h := h.2
        exact ty_iret X Y h dX1_lastCarOf_31
def eX1_lastCarOf (S : ty_S) (x1 : Int32) (K : ty_S → Int32 → Prop) : Prop :=
  ∃ n9, lX1_lastCarOf_7 K  n9 x1 ((S 13 0) - (1 : Int32)) S
set_option maxHeartbeats 4000000 in
set_option maxRecDepth 100000 in
theorem cX1_lastCarOf_C (l : Launch) (D : va_G) (cA : Nat → ClassId) (q : Nat → Nat) (S : ty_S) (x1 : Int32) (K : ty_S → Int32 → Prop) (h : eX1_lastCarOf S x1 K) : ∀ sz, Met l yX1_lastCarOf wsX1_lastCarOf rX1_lastCarOf (ty_Pc D cA q ty_LY S sz [.ref (q 4), .int x1]) (ty_Qi D cA q ty_LY sz K) 0 0 (ty_A q ty_LY.length sz) := by
  refine ty_ofM (ret := (some .int)) (maxL := 3) (cc := cX1_lastCarOf) (own := RX1) (Qc := fun sz => ty_Qi D cA q ty_LY sz K) (by decide +kernel) rfl (Nat.le_of_ble_eq_true rfl) rfl ?_
  intro p e s m args below meth c ls X hl Y
  have hx := X.1.1
  have hb := X.1.2.1
  have hl : lv_has ls 3 [(0, .ref (q 4)), (1, .int x1)] := hl
  unfold eX1_lastCarOf at h
  refine lv_aload_n hx hb dX1_lastCarOf_0 rfl (lv_at hl 0 rfl) ?_
  refine tg_X1_count (v := (S 13 0)) X Y iX1_lastCarOf_X1 kX1_lastCarOf_0 rfl dX1_lastCarOf_1 ?_
  refine lv_iconst (v := (1 : Int32)) hx hb dX1_lastCarOf_4 (by decide) ?_
  refine lv_isub hx hb dX1_lastCarOf_5 ?_
  refine lv_istore_n (lv' := [(2, .int ((S 13 0) - (1 : Int32))), (0, .ref (q 4)), (1, .int x1)]) hx hb dX1_lastCarOf_6 rfl hl (by decide) rfl (fun ls hl => ?_)
  obtain ⟨n9, h⟩ := h
  exact wlX1_lastCarOf_7 X  n9 _ _ _ _ _ _ h Y (lv_sub hl [1, 2, 0] rfl)

abbrev rX1_removeFirstCar : Room := { frames := 1, cells := 0, slots := 0, locals := 21 }
theorem kX1_removeFirstCar_0 : Cond.fieldLink RX1 15 "TrainYard$Row" "trains" "[I" ∈ wsX1_removeFirstCar := ty_m 1 (by decide +kernel)
theorem kX1_removeFirstCar_1 : Cond.fieldLink RX1 18 "TrainYard$Row" "count" "I" ∈ wsX1_removeFirstCar := ty_m 2 (by decide +kernel)
theorem kX1_removeFirstCar_2 : Cond.fieldLink RX1 9 "TrainYard$Row" "cars" "[I" ∈ wsX1_removeFirstCar := ty_m 3 (by decide +kernel)
theorem kX1_removeFirstCar_3 : Cond.initialized yX4_isCar.cls ∈ wsX1_removeFirstCar := ty_m 10 (by decide +kernel)
theorem kX1_removeFirstCar_4 : Cond.static yX4_isCar ∈ wsX1_removeFirstCar := ty_m 9 (by decide +kernel)
theorem iX1_removeFirstCar_X1 : ∀ w ∈ wsX10, w ∈ wsX1_removeFirstCar := ty_inp _ [12, 13, 14, 15] (by decide +kernel)
def lX1_removeFirstCar_23 (K : ty_S → Prop)  : Nat → Int32 → ty_S → Prop
  | 0, _, _ => False
  | n + 1, x2, S => (if (S 13 0) ≤ x2 then K (ty_st S 13 0 ((S 13 0) - (1 : Int32))) else (vp_in x2 40 ∧ (vp_in (x2 - (1 : Int32)) 40 ∧ lX1_removeFirstCar_23 K  n (x2 + (1 : Int32)) (ty_st S 5 (x2 - (1 : Int32)).toNatClampNeg (S 5 x2.toNatClampNeg)))))
set_option maxHeartbeats 4000000 in
set_option maxRecDepth 100000 in
theorem wlX1_removeFirstCar_23 {p : Program} {l : Launch} {e : Env} {s : State} {m : MethodId} {args : Array Value} {below : List Frame} {meth : Method} {c : Code} {D : va_G} {cA : Nat → ClassId} {q : Nat → Nat} {K : ty_S → Prop}  (X : ty_X D cA p s m args meth c cX1_removeFirstCar 3 none wsX1_removeFirstCar RX1)  : ∀ (n : Nat) (x2 : Int32) (S : ty_S) (H : Heap) (locs : List Loc) (ls : Array Slot), lX1_removeFirstCar_23 K  n x2 S → ty_Y D cA q ty_LY S s H locs → lv_has ls 3 [(0, .ref (q 4)), (2, .int x2)] → W p l e rX1_removeFirstCar s m args below meth c H locs 0 0 (ty_MV D cA q ty_LY K below args s) (F0 m 23 ls []) := by
  have hx := X.1.1
  have hb := X.1.2.1
  intro n
  induction n with
  | zero =>
    intro x2 S H locs ls h
    exact False.elim h
  | succ n ih =>
    intro x2 S H locs ls h Y hl
    unfold lX1_removeFirstCar_23 at h
    refine lv_iload_n hx hb dX1_removeFirstCar_23 rfl (lv_at hl 1 rfl) ?_
    refine lv_aload_n hx hb dX1_removeFirstCar_24 rfl (lv_at hl 0 rfl) ?_
    refine tg_X1_count (v := (S 13 0)) X Y iX1_removeFirstCar_X1 kX1_removeFirstCar_1 rfl dX1_removeFirstCar_25 ?_
    refine lv_icmp_ge (tgt := 51) hx hb dX1_removeFirstCar_28 (by decide) (fun c9 => ?_) (fun c9 => ?_)
    · have h := ty_t h c9
      refine lv_aload_n hx hb dX1_removeFirstCar_51 rfl (lv_at hl 0 rfl) ?_
      refine lv_dup hx hb dX1_removeFirstCar_52 rfl ?_
      refine tg_X1_count (v := (S 13 0)) X Y iX1_removeFirstCar_X1 kX1_removeFirstCar_1 rfl dX1_removeFirstCar_53 ?_
      refine lv_iconst (v := (1 : Int32)) hx hb dX1_removeFirstCar_56 (by decide) ?_
      refine lv_isub hx hb dX1_removeFirstCar_57 ?_
      refine tp_X1_count X Y iX1_removeFirstCar_X1 kX1_removeFirstCar_1 dX1_removeFirstCar_58 (fun H locs Y => ?_)
      exact ty_vret X Y h dX1_removeFirstCar_61
    · have h := ty_f h c9
      refine lv_aload_n hx hb dX1_removeFirstCar_31 rfl (lv_at hl 0 rfl) ?_
      refine tg_X1_cars X Y iX1_removeFirstCar_X1 kX1_removeFirstCar_2 dX1_removeFirstCar_32 ?_
      refine lv_iload_n hx hb dX1_removeFirstCar_35 rfl (lv_at hl 1 rfl) ?_
      refine lv_iconst (v := (1 : Int32)) hx hb dX1_removeFirstCar_36 (by decide) ?_
      refine lv_isub hx hb dX1_removeFirstCar_37 ?_
      refine lv_aload_n hx hb dX1_removeFirstCar_38 rfl (lv_at hl 0 rfl) ?_
      refine tg_X1_cars X Y iX1_removeFirstCar_X1 kX1_removeFirstCar_2 dX1_removeFirstCar_39 ?_
      refine lv_iload_n hx hb dX1_removeFirstCar_42 rfl (lv_at hl 1 rfl) ?_
      refine ty_iald (v := (S 5 x2.toNatClampNeg)) X Y 15 40 5 rfl h.1 rfl dX1_removeFirstCar_43 ?_
      have h := h.2
      refine ty_iast X Y 15 40 5 rfl (by decide) h.1 dX1_removeFirstCar_44 (fun H locs Y => ?_)
      have h := h.2
      refine lv_iinc (v := (x2 + (1 : Int32))) (lv' := [(2, .int (x2 + (1 : Int32))), (0, .ref (q 4))]) hx hb dX1_removeFirstCar_45 hl (k := 1) rfl rfl (by decide) rfl (fun ls hl => ?_)
      refine lv_goto (tgt := 23) hx hb dX1_removeFirstCar_48 (by decide) ?_
      exact ih _ _ _ _ _ h Y (lv_sub hl [1, 0] rfl)
def eX1_removeFirstCar (S : ty_S)  (K : ty_S → Prop) : Prop :=
  (eX1_carAt S (0 : Int32) (fun S1 r1 => (eX4_isCar S1 r1 (fun S2 r2 => (if r2 = (0 : Int32) then K S2 else (vp_in r1 40 ∧ ∃ n9, lX1_removeFirstCar_23 K  n9 (1 : Int32) (ty_st S2 6 r1.toNatClampNeg (0 : Int32))))))))
set_option maxHeartbeats 4000000 in
set_option maxRecDepth 100000 in
theorem cX1_removeFirstCar_C (l : Launch) (D : va_G) (cA : Nat → ClassId) (q : Nat → Nat) (S : ty_S)  (K : ty_S → Prop) (h : eX1_removeFirstCar S  K) : ∀ sz, Met l yX1_removeFirstCar wsX1_removeFirstCar rX1_removeFirstCar (ty_Pc D cA q ty_LY S sz [.ref (q 4)]) (ty_Qv D cA q ty_LY sz K) 0 0 (ty_A q ty_LY.length sz) := by
  refine ty_ofM (ret := none) (maxL := 3) (cc := cX1_removeFirstCar) (own := RX1) (Qc := fun sz => ty_Qv D cA q ty_LY sz K) (by decide +kernel) rfl (Nat.le_of_ble_eq_true rfl) rfl ?_
  intro p e s m args below meth c ls X hl Y
  have hx := X.1.1
  have hb := X.1.2.1
  have hl : lv_has ls 3 [(0, .ref (q 4))] := hl
  unfold eX1_removeFirstCar at h
  refine lv_aload_n hx hb dX1_removeFirstCar_0 rfl (lv_at hl 0 rfl) ?_
  refine lv_iconst (v := (0 : Int32)) hx hb dX1_removeFirstCar_1 (by decide) ?_
  refine ty_Vi (As := [.int (0 : Int32)]) (b := 4) (rest := []) X Y (cX1_carAt_C l D cA q S (0 : Int32) _ h) rfl rfl (fun hts => cwV 1 hts gX1_removeFirstCar_X1_carAt rfl rfl rfl (by decide +kernel) ⟨Nat.le_of_ble_eq_true rfl, Nat.le_of_ble_eq_true rfl⟩) rfl hl.1 (Nat.le_of_ble_eq_true rfl) dX1_removeFirstCar_2 ⟨Nat.zero_le _, Nat.zero_le _⟩ (fun r1 S1 H locs h Y => ?_)
  refine lv_istore_n (lv' := [(1, .int r1), (0, .ref (q 4))]) hx hb dX1_removeFirstCar_5 rfl hl (by decide) rfl (fun ls hl => ?_)
  refine lv_iload_n hx hb dX1_removeFirstCar_6 rfl (lv_at hl 0 rfl) ?_
  refine ty_SNi (As := [.int r1]) (rest := []) X Y (cX4_isCar_C l D cA q S1 r1 _ h) (fun hts hN => ty_cwSN 1 hts hN gX1_removeFirstCar_X4_isCar_n42 rfl (ty_m 16 rfl) kX1_removeFirstCar_3 kX1_removeFirstCar_4 rfl rfl (by decide +kernel) ⟨Nat.le_of_ble_eq_true rfl, Nat.le_of_ble_eq_true rfl⟩) rfl hl.1 (Nat.le_of_ble_eq_true rfl) dX1_removeFirstCar_7 ⟨Nat.zero_le _, Nat.zero_le _⟩ (fun r2 S2 H locs h Y => ?_)
  refine lv_if_ne (tgt := 14) hx hb dX1_removeFirstCar_10 (by decide) (fun c9 => ?_) (fun c9 => ?_)
  · have h := ty_f h c9
    refine lv_aload_n hx hb dX1_removeFirstCar_14 rfl (lv_at hl 1 rfl) ?_
    refine tg_X1_trains X Y iX1_removeFirstCar_X1 kX1_removeFirstCar_0 dX1_removeFirstCar_15 ?_
    refine lv_iload_n hx hb dX1_removeFirstCar_18 rfl (lv_at hl 0 rfl) ?_
    refine lv_iconst (v := (0 : Int32)) hx hb dX1_removeFirstCar_19 (by decide) ?_
    refine ty_iast X Y 16 40 6 rfl (by decide) h.1 dX1_removeFirstCar_20 (fun H locs Y => ?_)
    have h := h.2
    refine lv_iconst (v := (1 : Int32)) hx hb dX1_removeFirstCar_21 (by decide) ?_
    refine lv_istore_n (lv' := [(2, .int (1 : Int32)), (1, .int r1), (0, .ref (q 4))]) hx hb dX1_removeFirstCar_22 rfl hl (by decide) rfl (fun ls hl => ?_)
    obtain ⟨n9, h⟩ := h
    exact wlX1_removeFirstCar_23 X  n9 _ _ _ _ _ h Y (lv_sub hl [2, 0] rfl)
  · have h := ty_t h c9
    exact ty_vret X Y h dX1_removeFirstCar_13

abbrev rX1_carsOf : Room := { frames := 1, cells := 0, slots := 0, locals := 21 }
theorem kX1_carsOf_0 : Cond.fieldLink RX1 18 "TrainYard$Row" "count" "I" ∈ wsX1_carsOf := ty_m 1 (by decide +kernel)
theorem kX1_carsOf_1 : Cond.fieldLink RX1 9 "TrainYard$Row" "cars" "[I" ∈ wsX1_carsOf := ty_m 2 (by decide +kernel)
theorem iX1_carsOf_X1 : ∀ w ∈ wsX10, w ∈ wsX1_carsOf := ty_inp _ [9, 10, 11, 12] (by decide +kernel)
def lX1_carsOf_4 (K : ty_S → Int32 → Prop)  : Nat → Int32 → Int32 → Int32 → ty_S → Prop
  | 0, _, _, _, _ => False
  | n + 1, x1, x2, x3, S => (if (S 13 0) ≤ x3 then K S x2 else (vp_in x3 40 ∧ (eX1_trainOf S (S 5 x3.toNatClampNeg) (fun S1 r1 => (if r1 = x1 then lX1_carsOf_4 K  n x1 (x2 + (1 : Int32)) (x3 + (1 : Int32)) S1 else lX1_carsOf_4 K  n x1 x2 (x3 + (1 : Int32)) S1)))))
set_option maxHeartbeats 4000000 in
set_option maxRecDepth 100000 in
theorem wlX1_carsOf_4 {p : Program} {l : Launch} {e : Env} {s : State} {m : MethodId} {args : Array Value} {below : List Frame} {meth : Method} {c : Code} {D : va_G} {cA : Nat → ClassId} {q : Nat → Nat} {K : ty_S → Int32 → Prop}  (X : ty_X D cA p s m args meth c cX1_carsOf 4 (some .int) wsX1_carsOf RX1)  : ∀ (n : Nat) (x1 : Int32) (x2 : Int32) (x3 : Int32) (S : ty_S) (H : Heap) (locs : List Loc) (ls : Array Slot), lX1_carsOf_4 K  n x1 x2 x3 S → ty_Y D cA q ty_LY S s H locs → lv_has ls 4 [(0, .ref (q 4)), (1, .int x1), (2, .int x2), (3, .int x3)] → W p l e rX1_carsOf s m args below meth c H locs 0 0 (ty_MI D cA q ty_LY K below args s) (F0 m 4 ls []) := by
  have hx := X.1.1
  have hb := X.1.2.1
  intro n
  induction n with
  | zero =>
    intro x1 x2 x3 S H locs ls h
    exact False.elim h
  | succ n ih =>
    intro x1 x2 x3 S H locs ls h Y hl
    unfold lX1_carsOf_4 at h
    refine lv_iload_n hx hb dX1_carsOf_4 rfl (lv_at hl 3 rfl) ?_
    refine lv_aload_n hx hb dX1_carsOf_5 rfl (lv_at hl 0 rfl) ?_
    refine tg_X1_count (v := (S 13 0)) X Y iX1_carsOf_X1 kX1_carsOf_0 rfl dX1_carsOf_6 ?_
    refine lv_icmp_ge (tgt := 35) hx hb dX1_carsOf_9 (by decide) (fun c9 => ?_) (fun c9 => ?_)
    · have h := ty_t h c9
      refine lv_iload_n hx hb dX1_carsOf_35 rfl (lv_at hl 2 rfl) ?_
      exact ty_iret X Y h dX1_carsOf_36
    · have h := ty_f h c9
      refine lv_aload_n hx hb dX1_carsOf_12 rfl (lv_at hl 0 rfl) ?_
      refine lv_aload_n hx hb dX1_carsOf_13 rfl (lv_at hl 0 rfl) ?_
      refine tg_X1_cars X Y iX1_carsOf_X1 kX1_carsOf_1 dX1_carsOf_14 ?_
      refine lv_iload_n hx hb dX1_carsOf_17 rfl (lv_at hl 3 rfl) ?_
      refine ty_iald (v := (S 5 x3.toNatClampNeg)) X Y 15 40 5 rfl h.1 rfl dX1_carsOf_18 ?_
      have h := h.2
      refine ty_Vi (As := [.int (S 5 x3.toNatClampNeg)]) (b := 4) (rest := []) X Y (cX1_trainOf_C l D cA q S (S 5 x3.toNatClampNeg) _ h) rfl rfl (fun hts => cwV 1 hts gX1_carsOf_X1_trainOf rfl rfl rfl (by decide +kernel) ⟨Nat.le_of_ble_eq_true rfl, Nat.le_of_ble_eq_true rfl⟩) rfl hl.1 (Nat.le_of_ble_eq_true rfl) dX1_carsOf_19 ⟨Nat.zero_le _, Nat.zero_le _⟩ (fun r1 S1 H locs h Y => ?_)
      refine lv_iload_n hx hb dX1_carsOf_22 rfl (lv_at hl 1 rfl) ?_
      refine lv_icmp_ne (tgt := 29) hx hb dX1_carsOf_23 (by decide) (fun c9 => ?_) (fun c9 => ?_)
      · have h := ty_f h c9
        refine lv_iinc (v := (x3 + (1 : Int32))) (lv' := [(3, .int (x3 + (1 : Int32))), (0, .ref (q 4)), (1, .int x1), (2, .int x2)]) hx hb dX1_carsOf_29 hl (k := 3) rfl rfl (by decide) rfl (fun ls hl => ?_)
        refine lv_goto (tgt := 4) hx hb dX1_carsOf_32 (by decide) ?_
        exact ih _ _ _ _ _ _ _ h Y (lv_sub hl [1, 2, 3, 0] rfl)
      · have h := ty_t h c9
        refine lv_iinc (v := (x2 + (1 : Int32))) (lv' := [(2, .int (x2 + (1 : Int32))), (0, .ref (q 4)), (1, .int x1), (3, .int x3)]) hx hb dX1_carsOf_26 hl (k := 2) rfl rfl (by decide) rfl (fun ls hl => ?_)
        refine lv_iinc (v := (x3 + (1 : Int32))) (lv' := [(3, .int (x3 + (1 : Int32))), (2, .int (x2 + (1 : Int32))), (0, .ref (q 4)), (1, .int x1)]) hx hb dX1_carsOf_29 hl (k := 3) rfl rfl (by decide) rfl (fun ls hl => ?_)
        refine lv_goto (tgt := 4) hx hb dX1_carsOf_32 (by decide) ?_
        exact ih _ _ _ _ _ _ _ h Y (lv_sub hl [2, 3, 1, 0] rfl)
def eX1_carsOf (S : ty_S) (x1 : Int32) (K : ty_S → Int32 → Prop) : Prop :=
  ∃ n9, lX1_carsOf_4 K  n9 x1 (0 : Int32) (0 : Int32) S
set_option maxHeartbeats 4000000 in
set_option maxRecDepth 100000 in
theorem cX1_carsOf_C (l : Launch) (D : va_G) (cA : Nat → ClassId) (q : Nat → Nat) (S : ty_S) (x1 : Int32) (K : ty_S → Int32 → Prop) (h : eX1_carsOf S x1 K) : ∀ sz, Met l yX1_carsOf wsX1_carsOf rX1_carsOf (ty_Pc D cA q ty_LY S sz [.ref (q 4), .int x1]) (ty_Qi D cA q ty_LY sz K) 0 0 (ty_A q ty_LY.length sz) := by
  refine ty_ofM (ret := (some .int)) (maxL := 4) (cc := cX1_carsOf) (own := RX1) (Qc := fun sz => ty_Qi D cA q ty_LY sz K) (by decide +kernel) rfl (Nat.le_of_ble_eq_true rfl) rfl ?_
  intro p e s m args below meth c ls X hl Y
  have hx := X.1.1
  have hb := X.1.2.1
  have hl : lv_has ls 4 [(0, .ref (q 4)), (1, .int x1)] := hl
  unfold eX1_carsOf at h
  refine lv_iconst (v := (0 : Int32)) hx hb dX1_carsOf_0 (by decide) ?_
  refine lv_istore_n (lv' := [(2, .int (0 : Int32)), (0, .ref (q 4)), (1, .int x1)]) hx hb dX1_carsOf_1 rfl hl (by decide) rfl (fun ls hl => ?_)
  refine lv_iconst (v := (0 : Int32)) hx hb dX1_carsOf_2 (by decide) ?_
  refine lv_istore_n (lv' := [(3, .int (0 : Int32)), (2, .int (0 : Int32)), (0, .ref (q 4)), (1, .int x1)]) hx hb dX1_carsOf_3 rfl hl (by decide) rfl (fun ls hl => ?_)
  obtain ⟨n9, h⟩ := h
  exact wlX1_carsOf_4 X  n9 _ _ _ _ _ _ _ h Y (lv_sub hl [2, 3, 1, 0] rfl)

abbrev rX1_startOf : Room := { frames := 1, cells := 0, slots := 0, locals := 21 }
theorem kX1_startOf_0 : Cond.fieldLink RX1 18 "TrainYard$Row" "count" "I" ∈ wsX1_startOf := ty_m 1 (by decide +kernel)
theorem iX1_startOf_X1 : ∀ w ∈ wsX10, w ∈ wsX1_startOf := ty_inp _ [13, 14, 15, 16] (by decide +kernel)
def lX1_startOf_4 (K : ty_S → Int32 → Prop)  : Nat → Int32 → Int32 → Int32 → ty_S → Prop
  | 0, _, _, _, _ => False
  | n + 1, x1, x2, x3, S => (if (S 13 0) ≤ x3 then K S (-1 : Int32) else (eX1_carAt S x3 (fun S1 r1 => (eX1_trainOf S1 r1 (fun S2 r2 => (eX1_carAt S2 (x3 - (1 : Int32)) (fun S3 r3 => (eX1_trainOf S3 r3 (fun S4 r4 => (if r2 = r4 then lX1_startOf_4 K  n x1 x2 (x3 + (1 : Int32)) S4 else (if x2 = x1 then K S4 x3 else lX1_startOf_4 K  n x1 (x2 + (1 : Int32)) (x3 + (1 : Int32)) S4)))))))))))
set_option maxHeartbeats 4000000 in
set_option maxRecDepth 100000 in
theorem wlX1_startOf_4 {p : Program} {l : Launch} {e : Env} {s : State} {m : MethodId} {args : Array Value} {below : List Frame} {meth : Method} {c : Code} {D : va_G} {cA : Nat → ClassId} {q : Nat → Nat} {K : ty_S → Int32 → Prop}  (X : ty_X D cA p s m args meth c cX1_startOf 4 (some .int) wsX1_startOf RX1)  : ∀ (n : Nat) (x1 : Int32) (x2 : Int32) (x3 : Int32) (S : ty_S) (H : Heap) (locs : List Loc) (ls : Array Slot), lX1_startOf_4 K  n x1 x2 x3 S → ty_Y D cA q ty_LY S s H locs → lv_has ls 4 [(0, .ref (q 4)), (1, .int x1), (2, .int x2), (3, .int x3)] → W p l e rX1_startOf s m args below meth c H locs 0 0 (ty_MI D cA q ty_LY K below args s) (F0 m 4 ls []) := by
  have hx := X.1.1
  have hb := X.1.2.1
  intro n
  induction n with
  | zero =>
    intro x1 x2 x3 S H locs ls h
    exact False.elim h
  | succ n ih =>
    intro x1 x2 x3 S H locs ls h Y hl
    unfold lX1_startOf_4 at h
    refine lv_iload_n hx hb dX1_startOf_4 rfl (lv_at hl 3 rfl) ?_
    refine lv_aload_n hx hb dX1_startOf_5 rfl (lv_at hl 0 rfl) ?_
    refine tg_X1_count (v := (S 13 0)) X Y iX1_startOf_X1 kX1_startOf_0 rfl dX1_startOf_6 ?_
    refine lv_icmp_ge (tgt := 51) hx hb dX1_startOf_9 (by decide) (fun c9 => ?_) (fun c9 => ?_)
    · have h := ty_t h c9
      refine lv_iconst (v := (-1 : Int32)) hx hb dX1_startOf_51 (by decide) ?_
      exact ty_iret X Y h dX1_startOf_52
    · have h := ty_f h c9
      refine lv_aload_n hx hb dX1_startOf_12 rfl (lv_at hl 0 rfl) ?_
      refine lv_aload_n hx hb dX1_startOf_13 rfl (lv_at hl 0 rfl) ?_
      refine lv_iload_n hx hb dX1_startOf_14 rfl (lv_at hl 3 rfl) ?_
      refine ty_Vi (As := [.int x3]) (b := 4) (rest := [.ref (q 4)]) X Y (cX1_carAt_C l D cA q S x3 _ h) rfl rfl (fun hts => cwV 1 hts gX1_startOf_X1_carAt rfl rfl rfl (by decide +kernel) ⟨Nat.le_of_ble_eq_true rfl, Nat.le_of_ble_eq_true rfl⟩) rfl hl.1 (Nat.le_of_ble_eq_true rfl) dX1_startOf_15 ⟨Nat.zero_le _, Nat.zero_le _⟩ (fun r1 S1 H locs h Y => ?_)
      refine ty_Vi (As := [.int r1]) (b := 4) (rest := []) X Y (cX1_trainOf_C l D cA q S1 r1 _ h) rfl rfl (fun hts => cwV 1 hts gX1_startOf_X1_trainOf rfl rfl rfl (by decide +kernel) ⟨Nat.le_of_ble_eq_true rfl, Nat.le_of_ble_eq_true rfl⟩) rfl hl.1 (Nat.le_of_ble_eq_true rfl) dX1_startOf_18 ⟨Nat.zero_le _, Nat.zero_le _⟩ (fun r2 S2 H locs h Y => ?_)
      refine lv_aload_n hx hb dX1_startOf_21 rfl (lv_at hl 0 rfl) ?_
      refine lv_aload_n hx hb dX1_startOf_22 rfl (lv_at hl 0 rfl) ?_
      refine lv_iload_n hx hb dX1_startOf_23 rfl (lv_at hl 3 rfl) ?_
      refine lv_iconst (v := (1 : Int32)) hx hb dX1_startOf_24 (by decide) ?_
      refine lv_isub hx hb dX1_startOf_25 ?_
      refine ty_Vi (As := [.int (x3 - (1 : Int32))]) (b := 4) (rest := [.ref (q 4), .int r2]) X Y (cX1_carAt_C l D cA q S2 (x3 - (1 : Int32)) _ h) rfl rfl (fun hts => cwV 1 hts gX1_startOf_X1_carAt rfl rfl rfl (by decide +kernel) ⟨Nat.le_of_ble_eq_true rfl, Nat.le_of_ble_eq_true rfl⟩) rfl hl.1 (Nat.le_of_ble_eq_true rfl) dX1_startOf_26 ⟨Nat.zero_le _, Nat.zero_le _⟩ (fun r3 S3 H locs h Y => ?_)
      refine ty_Vi (As := [.int r3]) (b := 4) (rest := [.int r2]) X Y (cX1_trainOf_C l D cA q S3 r3 _ h) rfl rfl (fun hts => cwV 1 hts gX1_startOf_X1_trainOf rfl rfl rfl (by decide +kernel) ⟨Nat.le_of_ble_eq_true rfl, Nat.le_of_ble_eq_true rfl⟩) rfl hl.1 (Nat.le_of_ble_eq_true rfl) dX1_startOf_29 ⟨Nat.zero_le _, Nat.zero_le _⟩ (fun r4 S4 H locs h Y => ?_)
      refine lv_icmp_eq (tgt := 45) hx hb dX1_startOf_32 (by decide) (fun c9 => ?_) (fun c9 => ?_)
      · have h := ty_t h c9
        refine lv_iinc (v := (x3 + (1 : Int32))) (lv' := [(3, .int (x3 + (1 : Int32))), (0, .ref (q 4)), (1, .int x1), (2, .int x2)]) hx hb dX1_startOf_45 hl (k := 3) rfl rfl (by decide) rfl (fun ls hl => ?_)
        refine lv_goto (tgt := 4) hx hb dX1_startOf_48 (by decide) ?_
        exact ih _ _ _ _ _ _ _ h Y (lv_sub hl [1, 2, 3, 0] rfl)
      · have h := ty_f h c9
        refine lv_iload_n hx hb dX1_startOf_35 rfl (lv_at hl 2 rfl) ?_
        refine lv_iload_n hx hb dX1_startOf_36 rfl (lv_at hl 1 rfl) ?_
        refine lv_icmp_ne (tgt := 42) hx hb dX1_startOf_37 (by decide) (fun c9 => ?_) (fun c9 => ?_)
        · have h := ty_f h c9
          refine lv_iinc (v := (x2 + (1 : Int32))) (lv' := [(2, .int (x2 + (1 : Int32))), (0, .ref (q 4)), (1, .int x1), (3, .int x3)]) hx hb dX1_startOf_42 hl (k := 2) rfl rfl (by decide) rfl (fun ls hl => ?_)
          refine lv_iinc (v := (x3 + (1 : Int32))) (lv' := [(3, .int (x3 + (1 : Int32))), (2, .int (x2 + (1 : Int32))), (0, .ref (q 4)), (1, .int x1)]) hx hb dX1_startOf_45 hl (k := 3) rfl rfl (by decide) rfl (fun ls hl => ?_)
          refine lv_goto (tgt := 4) hx hb dX1_startOf_48 (by decide) ?_
          exact ih _ _ _ _ _ _ _ h Y (lv_sub hl [2, 3, 1, 0] rfl)
        · have h := ty_t h c9
          refine lv_iload_n hx hb dX1_startOf_40 rfl (lv_at hl 3 rfl) ?_
          exact ty_iret X Y h dX1_startOf_41
def eX1_startOf (S : ty_S) (x1 : Int32) (K : ty_S → Int32 → Prop) : Prop :=
  ∃ n9, lX1_startOf_4 K  n9 x1 (0 : Int32) (0 : Int32) S
set_option maxHeartbeats 4000000 in
set_option maxRecDepth 100000 in
theorem cX1_startOf_C (l : Launch) (D : va_G) (cA : Nat → ClassId) (q : Nat → Nat) (S : ty_S) (x1 : Int32) (K : ty_S → Int32 → Prop) (h : eX1_startOf S x1 K) : ∀ sz, Met l yX1_startOf wsX1_startOf rX1_startOf (ty_Pc D cA q ty_LY S sz [.ref (q 4), .int x1]) (ty_Qi D cA q ty_LY sz K) 0 0 (ty_A q ty_LY.length sz) := by
  refine ty_ofM (ret := (some .int)) (maxL := 4) (cc := cX1_startOf) (own := RX1) (Qc := fun sz => ty_Qi D cA q ty_LY sz K) (by decide +kernel) rfl (Nat.le_of_ble_eq_true rfl) rfl ?_
  intro p e s m args below meth c ls X hl Y
  have hx := X.1.1
  have hb := X.1.2.1
  have hl : lv_has ls 4 [(0, .ref (q 4)), (1, .int x1)] := hl
  unfold eX1_startOf at h
  refine lv_iconst (v := (0 : Int32)) hx hb dX1_startOf_0 (by decide) ?_
  refine lv_istore_n (lv' := [(2, .int (0 : Int32)), (0, .ref (q 4)), (1, .int x1)]) hx hb dX1_startOf_1 rfl hl (by decide) rfl (fun ls hl => ?_)
  refine lv_iconst (v := (0 : Int32)) hx hb dX1_startOf_2 (by decide) ?_
  refine lv_istore_n (lv' := [(3, .int (0 : Int32)), (2, .int (0 : Int32)), (0, .ref (q 4)), (1, .int x1)]) hx hb dX1_startOf_3 rfl hl (by decide) rfl (fun ls hl => ?_)
  obtain ⟨n9, h⟩ := h
  exact wlX1_startOf_4 X  n9 _ _ _ _ _ _ _ h Y (lv_sub hl [2, 3, 1, 0] rfl)

abbrev rX1_indexOf : Room := { frames := 0, cells := 0, slots := 0, locals := 0 }
theorem kX1_indexOf_0 : Cond.fieldLink RX1 18 "TrainYard$Row" "count" "I" ∈ wsX1_indexOf := ty_m 1 (by decide +kernel)
theorem kX1_indexOf_1 : Cond.fieldLink RX1 9 "TrainYard$Row" "cars" "[I" ∈ wsX1_indexOf := ty_m 2 (by decide +kernel)
theorem iX1_indexOf_X1 : ∀ w ∈ wsX10, w ∈ wsX1_indexOf := ty_inp _ [3, 4, 5, 6] (by decide +kernel)
def lX1_indexOf_2 (K : ty_S → Int32 → Prop)  : Nat → Int32 → Int32 → ty_S → Prop
  | 0, _, _, _ => False
  | n + 1, x1, x2, S => (if (S 13 0) ≤ x2 then K S (-1 : Int32) else (vp_in x2 40 ∧ (if (S 5 x2.toNatClampNeg) = x1 then K S x2 else lX1_indexOf_2 K  n x1 (x2 + (1 : Int32)) S)))
set_option maxHeartbeats 4000000 in
set_option maxRecDepth 100000 in
theorem wlX1_indexOf_2 {p : Program} {l : Launch} {e : Env} {s : State} {m : MethodId} {args : Array Value} {below : List Frame} {meth : Method} {c : Code} {D : va_G} {cA : Nat → ClassId} {q : Nat → Nat} {K : ty_S → Int32 → Prop}  (X : ty_X D cA p s m args meth c cX1_indexOf 3 (some .int) wsX1_indexOf RX1)  : ∀ (n : Nat) (x1 : Int32) (x2 : Int32) (S : ty_S) (H : Heap) (locs : List Loc) (ls : Array Slot), lX1_indexOf_2 K  n x1 x2 S → ty_Y D cA q ty_LY S s H locs → lv_has ls 3 [(0, .ref (q 4)), (1, .int x1), (2, .int x2)] → W p l e rX1_indexOf s m args below meth c H locs 0 0 (ty_MI D cA q ty_LY K below args s) (F0 m 2 ls []) := by
  have hx := X.1.1
  have hb := X.1.2.1
  intro n
  induction n with
  | zero =>
    intro x1 x2 S H locs ls h
    exact False.elim h
  | succ n ih =>
    intro x1 x2 S H locs ls h Y hl
    unfold lX1_indexOf_2 at h
    refine lv_iload_n hx hb dX1_indexOf_2 rfl (lv_at hl 2 rfl) ?_
    refine lv_aload_n hx hb dX1_indexOf_3 rfl (lv_at hl 0 rfl) ?_
    refine tg_X1_count (v := (S 13 0)) X Y iX1_indexOf_X1 kX1_indexOf_0 rfl dX1_indexOf_4 ?_
    refine lv_icmp_ge (tgt := 28) hx hb dX1_indexOf_7 (by decide) (fun c9 => ?_) (fun c9 => ?_)
    · have h := ty_t h c9
      refine lv_iconst (v := (-1 : Int32)) hx hb dX1_indexOf_28 (by decide) ?_
      exact ty_iret X Y h dX1_indexOf_29
    · have h := ty_f h c9
      refine lv_aload_n hx hb dX1_indexOf_10 rfl (lv_at hl 0 rfl) ?_
      refine tg_X1_cars X Y iX1_indexOf_X1 kX1_indexOf_1 dX1_indexOf_11 ?_
      refine lv_iload_n hx hb dX1_indexOf_14 rfl (lv_at hl 2 rfl) ?_
      refine ty_iald (v := (S 5 x2.toNatClampNeg)) X Y 15 40 5 rfl h.1 rfl dX1_indexOf_15 ?_
      have h := h.2
      refine lv_iload_n hx hb dX1_indexOf_16 rfl (lv_at hl 1 rfl) ?_
      refine lv_icmp_ne (tgt := 22) hx hb dX1_indexOf_17 (by decide) (fun c9 => ?_) (fun c9 => ?_)
      · have h := ty_f h c9
        refine lv_iinc (v := (x2 + (1 : Int32))) (lv' := [(2, .int (x2 + (1 : Int32))), (0, .ref (q 4)), (1, .int x1)]) hx hb dX1_indexOf_22 hl (k := 2) rfl rfl (by decide) rfl (fun ls hl => ?_)
        refine lv_goto (tgt := 2) hx hb dX1_indexOf_25 (by decide) ?_
        exact ih _ _ _ _ _ _ h Y (lv_sub hl [1, 2, 0] rfl)
      · have h := ty_t h c9
        refine lv_iload_n hx hb dX1_indexOf_20 rfl (lv_at hl 2 rfl) ?_
        exact ty_iret X Y h dX1_indexOf_21
def eX1_indexOf (S : ty_S) (x1 : Int32) (K : ty_S → Int32 → Prop) : Prop :=
  ∃ n9, lX1_indexOf_2 K  n9 x1 (0 : Int32) S
set_option maxHeartbeats 4000000 in
set_option maxRecDepth 100000 in
theorem cX1_indexOf_C (l : Launch) (D : va_G) (cA : Nat → ClassId) (q : Nat → Nat) (S : ty_S) (x1 : Int32) (K : ty_S → Int32 → Prop) (h : eX1_indexOf S x1 K) : ∀ sz, Met l yX1_indexOf wsX1_indexOf rX1_indexOf (ty_Pc D cA q ty_LY S sz [.ref (q 4), .int x1]) (ty_Qi D cA q ty_LY sz K) 0 0 (ty_A q ty_LY.length sz) := by
  refine ty_ofM (ret := (some .int)) (maxL := 3) (cc := cX1_indexOf) (own := RX1) (Qc := fun sz => ty_Qi D cA q ty_LY sz K) (by decide +kernel) rfl (Nat.le_of_ble_eq_true rfl) rfl ?_
  intro p e s m args below meth c ls X hl Y
  have hx := X.1.1
  have hb := X.1.2.1
  have hl : lv_has ls 3 [(0, .ref (q 4)), (1, .int x1)] := hl
  unfold eX1_indexOf at h
  refine lv_iconst (v := (0 : Int32)) hx hb dX1_indexOf_0 (by decide) ?_
  refine lv_istore_n (lv' := [(2, .int (0 : Int32)), (0, .ref (q 4)), (1, .int x1)]) hx hb dX1_indexOf_1 rfl hl (by decide) rfl (fun ls hl => ?_)
  obtain ⟨n9, h⟩ := h
  exact wlX1_indexOf_2 X  n9 _ _ _ _ _ _ h Y (lv_sub hl [1, 2, 0] rfl)

abbrev rX1_countTrains : Room := { frames := 1, cells := 0, slots := 0, locals := 21 }
theorem kX1_countTrains_0 : Cond.fieldLink RX1 18 "TrainYard$Row" "count" "I" ∈ wsX1_countTrains := ty_m 1 (by decide +kernel)
theorem iX1_countTrains_X1 : ∀ w ∈ wsX10, w ∈ wsX1_countTrains := ty_inp _ [13, 14, 15, 16] (by decide +kernel)
def lX1_countTrains_4 (K : ty_S → Int32 → Prop)  : Nat → Int32 → Int32 → ty_S → Prop
  | 0, _, _, _ => False
  | n + 1, x1, x2, S => (if (S 13 0) ≤ x2 then K S x1 else (eX1_carAt S x2 (fun S1 r1 => (eX1_trainOf S1 r1 (fun S2 r2 => (eX1_carAt S2 (x2 - (1 : Int32)) (fun S3 r3 => (eX1_trainOf S3 r3 (fun S4 r4 => (if r2 = r4 then lX1_countTrains_4 K  n x1 (x2 + (1 : Int32)) S4 else lX1_countTrains_4 K  n (x1 + (1 : Int32)) (x2 + (1 : Int32)) S4))))))))))
set_option maxHeartbeats 4000000 in
set_option maxRecDepth 100000 in
theorem wlX1_countTrains_4 {p : Program} {l : Launch} {e : Env} {s : State} {m : MethodId} {args : Array Value} {below : List Frame} {meth : Method} {c : Code} {D : va_G} {cA : Nat → ClassId} {q : Nat → Nat} {K : ty_S → Int32 → Prop}  (X : ty_X D cA p s m args meth c cX1_countTrains 3 (some .int) wsX1_countTrains RX1)  : ∀ (n : Nat) (x1 : Int32) (x2 : Int32) (S : ty_S) (H : Heap) (locs : List Loc) (ls : Array Slot), lX1_countTrains_4 K  n x1 x2 S → ty_Y D cA q ty_LY S s H locs → lv_has ls 3 [(0, .ref (q 4)), (1, .int x1), (2, .int x2)] → W p l e rX1_countTrains s m args below meth c H locs 0 0 (ty_MI D cA q ty_LY K below args s) (F0 m 4 ls []) := by
  have hx := X.1.1
  have hb := X.1.2.1
  intro n
  induction n with
  | zero =>
    intro x1 x2 S H locs ls h
    exact False.elim h
  | succ n ih =>
    intro x1 x2 S H locs ls h Y hl
    unfold lX1_countTrains_4 at h
    refine lv_iload_n hx hb dX1_countTrains_4 rfl (lv_at hl 2 rfl) ?_
    refine lv_aload_n hx hb dX1_countTrains_5 rfl (lv_at hl 0 rfl) ?_
    refine tg_X1_count (v := (S 13 0)) X Y iX1_countTrains_X1 kX1_countTrains_0 rfl dX1_countTrains_6 ?_
    refine lv_icmp_ge (tgt := 44) hx hb dX1_countTrains_9 (by decide) (fun c9 => ?_) (fun c9 => ?_)
    · have h := ty_t h c9
      refine lv_iload_n hx hb dX1_countTrains_44 rfl (lv_at hl 1 rfl) ?_
      exact ty_iret X Y h dX1_countTrains_45
    · have h := ty_f h c9
      refine lv_aload_n hx hb dX1_countTrains_12 rfl (lv_at hl 0 rfl) ?_
      refine lv_aload_n hx hb dX1_countTrains_13 rfl (lv_at hl 0 rfl) ?_
      refine lv_iload_n hx hb dX1_countTrains_14 rfl (lv_at hl 2 rfl) ?_
      refine ty_Vi (As := [.int x2]) (b := 4) (rest := [.ref (q 4)]) X Y (cX1_carAt_C l D cA q S x2 _ h) rfl rfl (fun hts => cwV 1 hts gX1_countTrains_X1_carAt rfl rfl rfl (by decide +kernel) ⟨Nat.le_of_ble_eq_true rfl, Nat.le_of_ble_eq_true rfl⟩) rfl hl.1 (Nat.le_of_ble_eq_true rfl) dX1_countTrains_15 ⟨Nat.zero_le _, Nat.zero_le _⟩ (fun r1 S1 H locs h Y => ?_)
      refine ty_Vi (As := [.int r1]) (b := 4) (rest := []) X Y (cX1_trainOf_C l D cA q S1 r1 _ h) rfl rfl (fun hts => cwV 1 hts gX1_countTrains_X1_trainOf rfl rfl rfl (by decide +kernel) ⟨Nat.le_of_ble_eq_true rfl, Nat.le_of_ble_eq_true rfl⟩) rfl hl.1 (Nat.le_of_ble_eq_true rfl) dX1_countTrains_18 ⟨Nat.zero_le _, Nat.zero_le _⟩ (fun r2 S2 H locs h Y => ?_)
      refine lv_aload_n hx hb dX1_countTrains_21 rfl (lv_at hl 0 rfl) ?_
      refine lv_aload_n hx hb dX1_countTrains_22 rfl (lv_at hl 0 rfl) ?_
      refine lv_iload_n hx hb dX1_countTrains_23 rfl (lv_at hl 2 rfl) ?_
      refine lv_iconst (v := (1 : Int32)) hx hb dX1_countTrains_24 (by decide) ?_
      refine lv_isub hx hb dX1_countTrains_25 ?_
      refine ty_Vi (As := [.int (x2 - (1 : Int32))]) (b := 4) (rest := [.ref (q 4), .int r2]) X Y (cX1_carAt_C l D cA q S2 (x2 - (1 : Int32)) _ h) rfl rfl (fun hts => cwV 1 hts gX1_countTrains_X1_carAt rfl rfl rfl (by decide +kernel) ⟨Nat.le_of_ble_eq_true rfl, Nat.le_of_ble_eq_true rfl⟩) rfl hl.1 (Nat.le_of_ble_eq_true rfl) dX1_countTrains_26 ⟨Nat.zero_le _, Nat.zero_le _⟩ (fun r3 S3 H locs h Y => ?_)
      refine ty_Vi (As := [.int r3]) (b := 4) (rest := [.int r2]) X Y (cX1_trainOf_C l D cA q S3 r3 _ h) rfl rfl (fun hts => cwV 1 hts gX1_countTrains_X1_trainOf rfl rfl rfl (by decide +kernel) ⟨Nat.le_of_ble_eq_true rfl, Nat.le_of_ble_eq_true rfl⟩) rfl hl.1 (Nat.le_of_ble_eq_true rfl) dX1_countTrains_29 ⟨Nat.zero_le _, Nat.zero_le _⟩ (fun r4 S4 H locs h Y => ?_)
      refine lv_icmp_eq (tgt := 38) hx hb dX1_countTrains_32 (by decide) (fun c9 => ?_) (fun c9 => ?_)
      · have h := ty_t h c9
        refine lv_iinc (v := (x2 + (1 : Int32))) (lv' := [(2, .int (x2 + (1 : Int32))), (0, .ref (q 4)), (1, .int x1)]) hx hb dX1_countTrains_38 hl (k := 2) rfl rfl (by decide) rfl (fun ls hl => ?_)
        refine lv_goto (tgt := 4) hx hb dX1_countTrains_41 (by decide) ?_
        exact ih _ _ _ _ _ _ h Y (lv_sub hl [1, 2, 0] rfl)
      · have h := ty_f h c9
        refine lv_iinc (v := (x1 + (1 : Int32))) (lv' := [(1, .int (x1 + (1 : Int32))), (0, .ref (q 4)), (2, .int x2)]) hx hb dX1_countTrains_35 hl (k := 1) rfl rfl (by decide) rfl (fun ls hl => ?_)
        refine lv_iinc (v := (x2 + (1 : Int32))) (lv' := [(2, .int (x2 + (1 : Int32))), (1, .int (x1 + (1 : Int32))), (0, .ref (q 4))]) hx hb dX1_countTrains_38 hl (k := 2) rfl rfl (by decide) rfl (fun ls hl => ?_)
        refine lv_goto (tgt := 4) hx hb dX1_countTrains_41 (by decide) ?_
        exact ih _ _ _ _ _ _ h Y (lv_sub hl [2, 1, 0] rfl)
def eX1_countTrains (S : ty_S)  (K : ty_S → Int32 → Prop) : Prop :=
  ∃ n9, lX1_countTrains_4 K  n9 (0 : Int32) (0 : Int32) S
set_option maxHeartbeats 4000000 in
set_option maxRecDepth 100000 in
theorem cX1_countTrains_C (l : Launch) (D : va_G) (cA : Nat → ClassId) (q : Nat → Nat) (S : ty_S)  (K : ty_S → Int32 → Prop) (h : eX1_countTrains S  K) : ∀ sz, Met l yX1_countTrains wsX1_countTrains rX1_countTrains (ty_Pc D cA q ty_LY S sz [.ref (q 4)]) (ty_Qi D cA q ty_LY sz K) 0 0 (ty_A q ty_LY.length sz) := by
  refine ty_ofM (ret := (some .int)) (maxL := 3) (cc := cX1_countTrains) (own := RX1) (Qc := fun sz => ty_Qi D cA q ty_LY sz K) (by decide +kernel) rfl (Nat.le_of_ble_eq_true rfl) rfl ?_
  intro p e s m args below meth c ls X hl Y
  have hx := X.1.1
  have hb := X.1.2.1
  have hl : lv_has ls 3 [(0, .ref (q 4))] := hl
  unfold eX1_countTrains at h
  refine lv_iconst (v := (0 : Int32)) hx hb dX1_countTrains_0 (by decide) ?_
  refine lv_istore_n (lv' := [(1, .int (0 : Int32)), (0, .ref (q 4))]) hx hb dX1_countTrains_1 rfl hl (by decide) rfl (fun ls hl => ?_)
  refine lv_iconst (v := (0 : Int32)) hx hb dX1_countTrains_2 (by decide) ?_
  refine lv_istore_n (lv' := [(2, .int (0 : Int32)), (1, .int (0 : Int32)), (0, .ref (q 4))]) hx hb dX1_countTrains_3 rfl hl (by decide) rfl (fun ls hl => ?_)
  obtain ⟨n9, h⟩ := h
  exact wlX1_countTrains_4 X  n9 _ _ _ _ _ _ h Y (lv_sub hl [2, 1, 0] rfl)
