abbrev rX5_thrown : Room := { frames := 0, cells := 0, slots := 0, locals := 0 }
theorem kX5_thrown_0 : Cond.fieldLink RX5 75 "TrainYardModel" "thrown" "I" ∈ wsX5_thrown := ty_m 1 (by decide +kernel)
theorem iX5_thrown_X5 : ∀ w ∈ wsX50, w ∈ wsX5_thrown := ty_inp _ [2, 3, 4, 5, 6, 7, 8, 9, 10, 11, 12, 13, 14, 15, 16, 17, 18, 19, 20, 21, 22, 23, 24, 25, 26, 27, 28, 29, 30, 31, 32] (by decide +kernel)
def eX5_thrown (S : ty_S)  (K : ty_S → Int32 → Prop) : Prop :=
  K S (S 60 0)
set_option maxHeartbeats 4000000 in
set_option maxRecDepth 100000 in
theorem cX5_thrown_C (l : Launch) (D : va_G) (cA : Nat → ClassId) (q : Nat → Nat) (S : ty_S)  (K : ty_S → Int32 → Prop) (h : eX5_thrown S  K) : ∀ sz, Met l yX5_thrown wsX5_thrown rX5_thrown (ty_Pc D cA q ty_LM S sz [.ref (q 0)]) (ty_Qi D cA q ty_LM sz K) 0 0 (ty_A q ty_LM.length sz) := by
  refine ty_ofM (ret := (some .int)) (maxL := 1) (cc := cX5_thrown) (own := RX5) (Qc := fun sz => ty_Qi D cA q ty_LM sz K) (by decide +kernel) rfl (Nat.le_of_ble_eq_true rfl) rfl ?_
  intro p e s m args below meth c ls X hl Y
  have hx := X.1.1
  have hb := X.1.2.1
  have hl : lv_has ls 1 [(0, .ref (q 0))] := hl
  unfold eX5_thrown at h
  refine lv_aload_n hx hb dX5_thrown_0 rfl (lv_at hl 0 rfl) ?_
  refine tg_X5_thrown (v := (S 60 0)) X Y iX5_thrown_X5 kX5_thrown_0 rfl dX5_thrown_1 ?_
  exact ty_iret X Y h dX5_thrown_4

abbrev rX5_trainOf : Room := { frames := 0, cells := 0, slots := 0, locals := 0 }
theorem kX5_trainOf_0 : Cond.fieldLink RX5 78 "TrainYardModel" "trains" "I" ∈ wsX5_trainOf := ty_m 1 (by decide +kernel)
theorem kX5_trainOf_1 : Cond.fieldLink RX5 43 "TrainYardModel" "trainSize" "[I" ∈ wsX5_trainOf := ty_m 2 (by decide +kernel)
theorem kX5_trainOf_2 : Cond.fieldLink RX5 46 "TrainYardModel" "trainCar" "[I" ∈ wsX5_trainOf := ty_m 3 (by decide +kernel)
theorem iX5_trainOf_X5 : ∀ w ∈ wsX50, w ∈ wsX5_trainOf := ty_inp _ [4, 5, 6, 7, 8, 9, 10, 11, 12, 13, 14, 15, 16, 17, 18, 19, 20, 21, 22, 23, 24, 25, 26, 27, 28, 29, 30, 31, 32, 33, 34] (by decide +kernel)
def lX5_trainOf_12 (K : ty_S → Int32 → Prop) (R2 : Int32 → Int32 → ty_S → Prop) : Nat → Int32 → Int32 → Int32 → ty_S → Prop
  | 0, _, _, _, _ => False
  | n + 1, x1, x2, x3, S => (vp_in x2 41 ∧ (if (S 41 x2.toNatClampNeg) ≤ x3 then R2 x1 (x2 + (1 : Int32)) S else (vp_in (((40 : Int32) * x2) + x3) 1640 ∧ (if (S 42 (((40 : Int32) * x2) + x3).toNatClampNeg) = x1 then K S x2 else lX5_trainOf_12 K R2 n x1 x2 (x3 + (1 : Int32)) S))))
set_option maxHeartbeats 4000000 in
set_option maxRecDepth 100000 in
theorem wlX5_trainOf_12 {p : Program} {l : Launch} {e : Env} {s : State} {m : MethodId} {args : Array Value} {below : List Frame} {meth : Method} {c : Code} {D : va_G} {cA : Nat → ClassId} {q : Nat → Nat} {K : ty_S → Int32 → Prop} {R2 : Int32 → Int32 → ty_S → Prop} (X : ty_X D cA p s m args meth c cX5_trainOf 4 (some .int) wsX5_trainOf RX5) (hR2 : ∀ (x1 : Int32) (x2 : Int32) (S : ty_S) (H : Heap) (locs : List Loc) (ls : Array Slot), R2 x1 x2 S → ty_Y D cA q ty_LM S s H locs → lv_has ls 4 [(0, .ref (q 0)), (1, .int x1), (2, .int x2)] → W p l e rX5_trainOf s m args below meth c H locs 0 0 (ty_MI D cA q ty_LM K below args s) (F0 m 2 ls [])) : ∀ (n : Nat) (x1 : Int32) (x2 : Int32) (x3 : Int32) (S : ty_S) (H : Heap) (locs : List Loc) (ls : Array Slot), lX5_trainOf_12 K R2 n x1 x2 x3 S → ty_Y D cA q ty_LM S s H locs → lv_has ls 4 [(0, .ref (q 0)), (1, .int x1), (2, .int x2), (3, .int x3)] → W p l e rX5_trainOf s m args below meth c H locs 0 0 (ty_MI D cA q ty_LM K below args s) (F0 m 12 ls []) := by
  have hx := X.1.1
  have hb := X.1.2.1
  intro n
  induction n with
  | zero =>
    intro x1 x2 x3 S H locs ls h
    exact False.elim h
  | succ n ih =>
    intro x1 x2 x3 S H locs ls h Y hl
    unfold lX5_trainOf_12 at h
    refine lv_iload_n hx hb dX5_trainOf_12 rfl (lv_at hl 3 rfl) ?_
    refine lv_aload_n hx hb dX5_trainOf_13 rfl (lv_at hl 0 rfl) ?_
    refine tg_X5_trainSize X Y iX5_trainOf_X5 kX5_trainOf_1 dX5_trainOf_14 ?_
    refine lv_iload_n hx hb dX5_trainOf_17 rfl (lv_at hl 2 rfl) ?_
    refine ty_iald (v := (S 41 x2.toNatClampNeg)) X Y 12 41 41 rfl h.1 rfl dX5_trainOf_18 ?_
    have h := h.2
    refine lv_icmp_ge (tgt := 45) hx hb dX5_trainOf_19 (by decide) (fun c9 => ?_) (fun c9 => ?_)
    · have h := ty_t h c9
      refine lv_iinc (v := (x2 + (1 : Int32))) (lv' := [(2, .int (x2 + (1 : Int32))), (0, .ref (q 0)), (1, .int x1), (3, .int x3)]) hx hb dX5_trainOf_45 hl (k := 2) rfl rfl (by decide) rfl (fun ls hl => ?_)
      refine lv_goto (tgt := 2) hx hb dX5_trainOf_48 (by decide) ?_
      exact hR2 _ _ _ _ _ _ h Y (lv_sub hl [1, 2, 0] rfl)
    · have h := ty_f h c9
      refine lv_aload_n hx hb dX5_trainOf_22 rfl (lv_at hl 0 rfl) ?_
      refine tg_X5_trainCar X Y iX5_trainOf_X5 kX5_trainOf_2 dX5_trainOf_23 ?_
      refine lv_bipush (v := (40 : Int32)) hx hb dX5_trainOf_26 (by decide) ?_
      refine lv_iload_n hx hb dX5_trainOf_28 rfl (lv_at hl 2 rfl) ?_
      refine lv_imul hx hb dX5_trainOf_29 ?_
      refine lv_iload_n hx hb dX5_trainOf_30 rfl (lv_at hl 3 rfl) ?_
      refine lv_iadd hx hb dX5_trainOf_31 ?_
      refine ty_iald (v := (S 42 (((40 : Int32) * x2) + x3).toNatClampNeg)) X Y 13 1640 42 rfl h.1 rfl dX5_trainOf_32 ?_
      have h := h.2
      refine lv_iload_n hx hb dX5_trainOf_33 rfl (lv_at hl 1 rfl) ?_
      refine lv_icmp_ne (tgt := 39) hx hb dX5_trainOf_34 (by decide) (fun c9 => ?_) (fun c9 => ?_)
      · have h := ty_f h c9
        refine lv_iinc (v := (x3 + (1 : Int32))) (lv' := [(3, .int (x3 + (1 : Int32))), (0, .ref (q 0)), (1, .int x1), (2, .int x2)]) hx hb dX5_trainOf_39 hl (k := 3) rfl rfl (by decide) rfl (fun ls hl => ?_)
        refine lv_goto (tgt := 12) hx hb dX5_trainOf_42 (by decide) ?_
        exact ih _ _ _ _ _ _ _ h Y (lv_sub hl [1, 2, 3, 0] rfl)
      · have h := ty_t h c9
        refine lv_iload_n hx hb dX5_trainOf_37 rfl (lv_at hl 2 rfl) ?_
        exact ty_iret X Y h dX5_trainOf_38
def lX5_trainOf_2 (K : ty_S → Int32 → Prop)  : Nat → Int32 → Int32 → ty_S → Prop
  | 0, _, _, _ => False
  | n + 1, x1, x2, S => (if (S 50 0) ≤ x2 then K S (-1 : Int32) else ∃ n9, lX5_trainOf_12 K (fun a0 a1 S9 => lX5_trainOf_2 K  n a0 a1 S9) n9 x1 x2 (0 : Int32) S)
set_option maxHeartbeats 4000000 in
set_option maxRecDepth 100000 in
theorem wlX5_trainOf_2 {p : Program} {l : Launch} {e : Env} {s : State} {m : MethodId} {args : Array Value} {below : List Frame} {meth : Method} {c : Code} {D : va_G} {cA : Nat → ClassId} {q : Nat → Nat} {K : ty_S → Int32 → Prop}  (X : ty_X D cA p s m args meth c cX5_trainOf 4 (some .int) wsX5_trainOf RX5)  : ∀ (n : Nat) (x1 : Int32) (x2 : Int32) (S : ty_S) (H : Heap) (locs : List Loc) (ls : Array Slot), lX5_trainOf_2 K  n x1 x2 S → ty_Y D cA q ty_LM S s H locs → lv_has ls 4 [(0, .ref (q 0)), (1, .int x1), (2, .int x2)] → W p l e rX5_trainOf s m args below meth c H locs 0 0 (ty_MI D cA q ty_LM K below args s) (F0 m 2 ls []) := by
  have hx := X.1.1
  have hb := X.1.2.1
  intro n
  induction n with
  | zero =>
    intro x1 x2 S H locs ls h
    exact False.elim h
  | succ n ih =>
    intro x1 x2 S H locs ls h Y hl
    unfold lX5_trainOf_2 at h
    refine lv_iload_n hx hb dX5_trainOf_2 rfl (lv_at hl 2 rfl) ?_
    refine lv_aload_n hx hb dX5_trainOf_3 rfl (lv_at hl 0 rfl) ?_
    refine tg_X5_trains (v := (S 50 0)) X Y iX5_trainOf_X5 kX5_trainOf_0 rfl dX5_trainOf_4 ?_
    refine lv_icmp_ge (tgt := 51) hx hb dX5_trainOf_7 (by decide) (fun c9 => ?_) (fun c9 => ?_)
    · have h := ty_t h c9
      refine lv_iconst (v := (-1 : Int32)) hx hb dX5_trainOf_51 (by decide) ?_
      exact ty_iret X Y h dX5_trainOf_52
    · have h := ty_f h c9
      refine lv_iconst (v := (0 : Int32)) hx hb dX5_trainOf_10 (by decide) ?_
      refine lv_istore_n (lv' := [(3, .int (0 : Int32)), (0, .ref (q 0)), (1, .int x1), (2, .int x2)]) hx hb dX5_trainOf_11 rfl hl (by decide) rfl (fun ls hl => ?_)
      obtain ⟨n9, h⟩ := h
      exact wlX5_trainOf_12 X ih n9 _ _ _ _ _ _ _ h Y (lv_sub hl [1, 2, 3, 0] rfl)
def eX5_trainOf (S : ty_S) (x1 : Int32) (K : ty_S → Int32 → Prop) : Prop :=
  ∃ n9, lX5_trainOf_2 K  n9 x1 (0 : Int32) S
set_option maxHeartbeats 4000000 in
set_option maxRecDepth 100000 in
theorem cX5_trainOf_C (l : Launch) (D : va_G) (cA : Nat → ClassId) (q : Nat → Nat) (S : ty_S) (x1 : Int32) (K : ty_S → Int32 → Prop) (h : eX5_trainOf S x1 K) : ∀ sz, Met l yX5_trainOf wsX5_trainOf rX5_trainOf (ty_Pc D cA q ty_LM S sz [.ref (q 0), .int x1]) (ty_Qi D cA q ty_LM sz K) 0 0 (ty_A q ty_LM.length sz) := by
  refine ty_ofM (ret := (some .int)) (maxL := 4) (cc := cX5_trainOf) (own := RX5) (Qc := fun sz => ty_Qi D cA q ty_LM sz K) (by decide +kernel) rfl (Nat.le_of_ble_eq_true rfl) rfl ?_
  intro p e s m args below meth c ls X hl Y
  have hx := X.1.1
  have hb := X.1.2.1
  have hl : lv_has ls 4 [(0, .ref (q 0)), (1, .int x1)] := hl
  unfold eX5_trainOf at h
  refine lv_iconst (v := (0 : Int32)) hx hb dX5_trainOf_0 (by decide) ?_
  refine lv_istore_n (lv' := [(2, .int (0 : Int32)), (0, .ref (q 0)), (1, .int x1)]) hx hb dX5_trainOf_1 rfl hl (by decide) rfl (fun ls hl => ?_)
  obtain ⟨n9, h⟩ := h
  exact wlX5_trainOf_2 X  n9 _ _ _ _ _ _ h Y (lv_sub hl [1, 2, 0] rfl)

abbrev rX5_freeCar : Room := { frames := 1, cells := 0, slots := 0, locals := 23 }
def lX5_freeCar_2 (K : ty_S → Int32 → Prop)  : Nat → Int32 → ty_S → Prop
  | 0, _, _ => False
  | n + 1, x1, S => (if (40 : Int32) ≤ x1 then K S (-1 : Int32) else (eX5_trainOf S x1 (fun S1 r1 => (if (0 : Int32) ≤ r1 then lX5_freeCar_2 K  n (x1 + (1 : Int32)) S1 else K S1 x1))))
set_option maxHeartbeats 4000000 in
set_option maxRecDepth 100000 in
theorem wlX5_freeCar_2 {p : Program} {l : Launch} {e : Env} {s : State} {m : MethodId} {args : Array Value} {below : List Frame} {meth : Method} {c : Code} {D : va_G} {cA : Nat → ClassId} {q : Nat → Nat} {K : ty_S → Int32 → Prop}  (X : ty_X D cA p s m args meth c cX5_freeCar 2 (some .int) wsX5_freeCar RX5)  : ∀ (n : Nat) (x1 : Int32) (S : ty_S) (H : Heap) (locs : List Loc) (ls : Array Slot), lX5_freeCar_2 K  n x1 S → ty_Y D cA q ty_LM S s H locs → lv_has ls 2 [(0, .ref (q 0)), (1, .int x1)] → W p l e rX5_freeCar s m args below meth c H locs 0 0 (ty_MI D cA q ty_LM K below args s) (F0 m 2 ls []) := by
  have hx := X.1.1
  have hb := X.1.2.1
  intro n
  induction n with
  | zero =>
    intro x1 S H locs ls h
    exact False.elim h
  | succ n ih =>
    intro x1 S H locs ls h Y hl
    unfold lX5_freeCar_2 at h
    refine lv_iload_n hx hb dX5_freeCar_2 rfl (lv_at hl 1 rfl) ?_
    refine lv_bipush (v := (40 : Int32)) hx hb dX5_freeCar_3 (by decide) ?_
    refine lv_icmp_ge (tgt := 24) hx hb dX5_freeCar_5 (by decide) (fun c9 => ?_) (fun c9 => ?_)
    · have h := ty_t h c9
      refine lv_iconst (v := (-1 : Int32)) hx hb dX5_freeCar_24 (by decide) ?_
      exact ty_iret X Y h dX5_freeCar_25
    · have h := ty_f h c9
      refine lv_aload_n hx hb dX5_freeCar_8 rfl (lv_at hl 0 rfl) ?_
      refine lv_iload_n hx hb dX5_freeCar_9 rfl (lv_at hl 1 rfl) ?_
      refine ty_Vi (As := [.int x1]) (b := 0) (rest := []) X Y (cX5_trainOf_C l D cA q S x1 _ h) rfl rfl (fun hts => cwV 1 hts gX5_freeCar_X5_trainOf rfl rfl rfl (by decide +kernel) ⟨Nat.le_of_ble_eq_true rfl, Nat.le_of_ble_eq_true rfl⟩) rfl hl.1 (Nat.le_of_ble_eq_true rfl) dX5_freeCar_10 ⟨Nat.zero_le _, Nat.zero_le _⟩ (fun r1 S1 H locs h Y => ?_)
      refine lv_if_ge (tgt := 18) hx hb dX5_freeCar_13 (by decide) (fun c9 => ?_) (fun c9 => ?_)
      · have h := ty_t h c9
        refine lv_iinc (v := (x1 + (1 : Int32))) (lv' := [(1, .int (x1 + (1 : Int32))), (0, .ref (q 0))]) hx hb dX5_freeCar_18 hl (k := 1) rfl rfl (by decide) rfl (fun ls hl => ?_)
        refine lv_goto (tgt := 2) hx hb dX5_freeCar_21 (by decide) ?_
        exact ih _ _ _ _ _ h Y (lv_sub hl [1, 0] rfl)
      · have h := ty_f h c9
        refine lv_iload_n hx hb dX5_freeCar_16 rfl (lv_at hl 1 rfl) ?_
        exact ty_iret X Y h dX5_freeCar_17
def eX5_freeCar (S : ty_S)  (K : ty_S → Int32 → Prop) : Prop :=
  ∃ n9, lX5_freeCar_2 K  n9 (0 : Int32) S
set_option maxHeartbeats 4000000 in
set_option maxRecDepth 100000 in
theorem cX5_freeCar_C (l : Launch) (D : va_G) (cA : Nat → ClassId) (q : Nat → Nat) (S : ty_S)  (K : ty_S → Int32 → Prop) (h : eX5_freeCar S  K) : ∀ sz, Met l yX5_freeCar wsX5_freeCar rX5_freeCar (ty_Pc D cA q ty_LM S sz [.ref (q 0)]) (ty_Qi D cA q ty_LM sz K) 0 0 (ty_A q ty_LM.length sz) := by
  refine ty_ofM (ret := (some .int)) (maxL := 2) (cc := cX5_freeCar) (own := RX5) (Qc := fun sz => ty_Qi D cA q ty_LM sz K) (by decide +kernel) rfl (Nat.le_of_ble_eq_true rfl) rfl ?_
  intro p e s m args below meth c ls X hl Y
  have hx := X.1.1
  have hb := X.1.2.1
  have hl : lv_has ls 2 [(0, .ref (q 0))] := hl
  unfold eX5_freeCar at h
  refine lv_iconst (v := (0 : Int32)) hx hb dX5_freeCar_0 (by decide) ?_
  refine lv_istore_n (lv' := [(1, .int (0 : Int32)), (0, .ref (q 0))]) hx hb dX5_freeCar_1 rfl hl (by decide) rfl (fun ls hl => ?_)
  obtain ⟨n9, h⟩ := h
  exact wlX5_freeCar_2 X  n9 _ _ _ _ _ h Y (lv_sub hl [1, 0] rfl)

abbrev rX5_freeCars : Room := { frames := 0, cells := 0, slots := 0, locals := 0 }
theorem kX5_freeCars_0 : Cond.fieldLink RX5 78 "TrainYardModel" "trains" "I" ∈ wsX5_freeCars := ty_m 1 (by decide +kernel)
theorem kX5_freeCars_1 : Cond.fieldLink RX5 43 "TrainYardModel" "trainSize" "[I" ∈ wsX5_freeCars := ty_m 2 (by decide +kernel)
theorem iX5_freeCars_X5 : ∀ w ∈ wsX50, w ∈ wsX5_freeCars := ty_inp _ [3, 4, 5, 6, 7, 8, 9, 10, 11, 12, 13, 14, 15, 16, 17, 18, 19, 20, 21, 22, 23, 24, 25, 26, 27, 28, 29, 30, 31, 32, 33] (by decide +kernel)
def lX5_freeCars_5 (K : ty_S → Int32 → Prop)  : Nat → Int32 → Int32 → ty_S → Prop
  | 0, _, _, _ => False
  | n + 1, x1, x2, S => (if (S 50 0) ≤ x2 then K S x1 else (vp_in x2 41 ∧ lX5_freeCars_5 K  n (x1 - (S 41 x2.toNatClampNeg)) (x2 + (1 : Int32)) S))
set_option maxHeartbeats 4000000 in
set_option maxRecDepth 100000 in
theorem wlX5_freeCars_5 {p : Program} {l : Launch} {e : Env} {s : State} {m : MethodId} {args : Array Value} {below : List Frame} {meth : Method} {c : Code} {D : va_G} {cA : Nat → ClassId} {q : Nat → Nat} {K : ty_S → Int32 → Prop}  (X : ty_X D cA p s m args meth c cX5_freeCars 3 (some .int) wsX5_freeCars RX5)  : ∀ (n : Nat) (x1 : Int32) (x2 : Int32) (S : ty_S) (H : Heap) (locs : List Loc) (ls : Array Slot), lX5_freeCars_5 K  n x1 x2 S → ty_Y D cA q ty_LM S s H locs → lv_has ls 3 [(0, .ref (q 0)), (1, .int x1), (2, .int x2)] → W p l e rX5_freeCars s m args below meth c H locs 0 0 (ty_MI D cA q ty_LM K below args s) (F0 m 5 ls []) := by
  have hx := X.1.1
  have hb := X.1.2.1
  intro n
  induction n with
  | zero =>
    intro x1 x2 S H locs ls h
    exact False.elim h
  | succ n ih =>
    intro x1 x2 S H locs ls h Y hl
    unfold lX5_freeCars_5 at h
    refine lv_iload_n hx hb dX5_freeCars_5 rfl (lv_at hl 2 rfl) ?_
    refine lv_aload_n hx hb dX5_freeCars_6 rfl (lv_at hl 0 rfl) ?_
    refine tg_X5_trains (v := (S 50 0)) X Y iX5_freeCars_X5 kX5_freeCars_0 rfl dX5_freeCars_7 ?_
    refine lv_icmp_ge (tgt := 28) hx hb dX5_freeCars_10 (by decide) (fun c9 => ?_) (fun c9 => ?_)
    · have h := ty_t h c9
      refine lv_iload_n hx hb dX5_freeCars_28 rfl (lv_at hl 1 rfl) ?_
      exact ty_iret X Y h dX5_freeCars_29
    · have h := ty_f h c9
      refine lv_iload_n hx hb dX5_freeCars_13 rfl (lv_at hl 1 rfl) ?_
      refine lv_aload_n hx hb dX5_freeCars_14 rfl (lv_at hl 0 rfl) ?_
      refine tg_X5_trainSize X Y iX5_freeCars_X5 kX5_freeCars_1 dX5_freeCars_15 ?_
      refine lv_iload_n hx hb dX5_freeCars_18 rfl (lv_at hl 2 rfl) ?_
      refine ty_iald (v := (S 41 x2.toNatClampNeg)) X Y 12 41 41 rfl h.1 rfl dX5_freeCars_19 ?_
      have h := h.2
      refine lv_isub hx hb dX5_freeCars_20 ?_
      refine lv_istore_n (lv' := [(1, .int (x1 - (S 41 x2.toNatClampNeg))), (0, .ref (q 0)), (2, .int x2)]) hx hb dX5_freeCars_21 rfl hl (by decide) rfl (fun ls hl => ?_)
      refine lv_iinc (v := (x2 + (1 : Int32))) (lv' := [(2, .int (x2 + (1 : Int32))), (1, .int (x1 - (S 41 x2.toNatClampNeg))), (0, .ref (q 0))]) hx hb dX5_freeCars_22 hl (k := 2) rfl rfl (by decide) rfl (fun ls hl => ?_)
      refine lv_goto (tgt := 5) hx hb dX5_freeCars_25 (by decide) ?_
      exact ih _ _ _ _ _ _ h Y (lv_sub hl [2, 1, 0] rfl)
def eX5_freeCars (S : ty_S)  (K : ty_S → Int32 → Prop) : Prop :=
  ∃ n9, lX5_freeCars_5 K  n9 (40 : Int32) (0 : Int32) S
set_option maxHeartbeats 4000000 in
set_option maxRecDepth 100000 in
theorem cX5_freeCars_C (l : Launch) (D : va_G) (cA : Nat → ClassId) (q : Nat → Nat) (S : ty_S)  (K : ty_S → Int32 → Prop) (h : eX5_freeCars S  K) : ∀ sz, Met l yX5_freeCars wsX5_freeCars rX5_freeCars (ty_Pc D cA q ty_LM S sz [.ref (q 0)]) (ty_Qi D cA q ty_LM sz K) 0 0 (ty_A q ty_LM.length sz) := by
  refine ty_ofM (ret := (some .int)) (maxL := 3) (cc := cX5_freeCars) (own := RX5) (Qc := fun sz => ty_Qi D cA q ty_LM sz K) (by decide +kernel) rfl (Nat.le_of_ble_eq_true rfl) rfl ?_
  intro p e s m args below meth c ls X hl Y
  have hx := X.1.1
  have hb := X.1.2.1
  have hl : lv_has ls 3 [(0, .ref (q 0))] := hl
  unfold eX5_freeCars at h
  refine lv_bipush (v := (40 : Int32)) hx hb dX5_freeCars_0 (by decide) ?_
  refine lv_istore_n (lv' := [(1, .int (40 : Int32)), (0, .ref (q 0))]) hx hb dX5_freeCars_2 rfl hl (by decide) rfl (fun ls hl => ?_)
  refine lv_iconst (v := (0 : Int32)) hx hb dX5_freeCars_3 (by decide) ?_
  refine lv_istore_n (lv' := [(2, .int (0 : Int32)), (1, .int (40 : Int32)), (0, .ref (q 0))]) hx hb dX5_freeCars_4 rfl hl (by decide) rfl (fun ls hl => ?_)
  obtain ⟨n9, h⟩ := h
  exact wlX5_freeCars_5 X  n9 _ _ _ _ _ _ h Y (lv_sub hl [2, 1, 0] rfl)

abbrev rX5_lastCar : Room := { frames := 0, cells := 0, slots := 0, locals := 0 }
theorem kX5_lastCar_0 : Cond.fieldLink RX5 46 "TrainYardModel" "trainCar" "[I" ∈ wsX5_lastCar := ty_m 1 (by decide +kernel)
theorem kX5_lastCar_1 : Cond.fieldLink RX5 43 "TrainYardModel" "trainSize" "[I" ∈ wsX5_lastCar := ty_m 2 (by decide +kernel)
theorem iX5_lastCar_X5 : ∀ w ∈ wsX50, w ∈ wsX5_lastCar := ty_inp _ [3, 4, 5, 6, 7, 8, 9, 10, 11, 12, 13, 14, 15, 16, 17, 18, 19, 20, 21, 22, 23, 24, 25, 26, 27, 28, 29, 30, 31, 32, 33] (by decide +kernel)
def eX5_lastCar (S : ty_S) (x1 : Int32) (K : ty_S → Int32 → Prop) : Prop :=
  (vp_in x1 41 ∧ (vp_in ((((40 : Int32) * x1) + (S 41 x1.toNatClampNeg)) - (1 : Int32)) 1640 ∧ K S (S 42 ((((40 : Int32) * x1) + (S 41 x1.toNatClampNeg)) - (1 : Int32)).toNatClampNeg)))
set_option maxHeartbeats 4000000 in
set_option maxRecDepth 100000 in
theorem cX5_lastCar_C (l : Launch) (D : va_G) (cA : Nat → ClassId) (q : Nat → Nat) (S : ty_S) (x1 : Int32) (K : ty_S → Int32 → Prop) (h : eX5_lastCar S x1 K) : ∀ sz, Met l yX5_lastCar wsX5_lastCar rX5_lastCar (ty_Pc D cA q ty_LM S sz [.ref (q 0), .int x1]) (ty_Qi D cA q ty_LM sz K) 0 0 (ty_A q ty_LM.length sz) := by
  refine ty_ofM (ret := (some .int)) (maxL := 2) (cc := cX5_lastCar) (own := RX5) (Qc := fun sz => ty_Qi D cA q ty_LM sz K) (by decide +kernel) rfl (Nat.le_of_ble_eq_true rfl) rfl ?_
  intro p e s m args below meth c ls X hl Y
  have hx := X.1.1
  have hb := X.1.2.1
  have hl : lv_has ls 2 [(0, .ref (q 0)), (1, .int x1)] := hl
  unfold eX5_lastCar at h
  refine lv_aload_n hx hb dX5_lastCar_0 rfl (lv_at hl 0 rfl) ?_
  refine tg_X5_trainCar X Y iX5_lastCar_X5 kX5_lastCar_0 dX5_lastCar_1 ?_
  refine lv_bipush (v := (40 : Int32)) hx hb dX5_lastCar_4 (by decide) ?_
  refine lv_iload_n hx hb dX5_lastCar_6 rfl (lv_at hl 1 rfl) ?_
  refine lv_imul hx hb dX5_lastCar_7 ?_
  refine lv_aload_n hx hb dX5_lastCar_8 rfl (lv_at hl 0 rfl) ?_
  refine tg_X5_trainSize X Y iX5_lastCar_X5 kX5_lastCar_1 dX5_lastCar_9 ?_
  refine lv_iload_n hx hb dX5_lastCar_12 rfl (lv_at hl 1 rfl) ?_
  refine ty_iald (v := (S 41 x1.toNatClampNeg)) X Y 12 41 41 rfl h.1 rfl dX5_lastCar_13 ?_
  have h := h.2
  refine lv_iadd hx hb dX5_lastCar_14 ?_
  refine lv_iconst (v := (1 : Int32)) hx hb dX5_lastCar_15 (by decide) ?_
  refine lv_isub hx hb dX5_lastCar_16 ?_
  refine ty_iald (v := (S 42 ((((40 : Int32) * x1) + (S 41 x1.toNatClampNeg)) - (1 : Int32)).toNatClampNeg)) X Y 13 1640 42 rfl h.1 rfl dX5_lastCar_17 ?_
  have h := h.2
  exact ty_iret X Y h dX5_lastCar_18

abbrev rX5_couple : Room := { frames := 0, cells := 0, slots := 0, locals := 0 }
theorem kX5_couple_0 : Cond.fieldLink RX5 46 "TrainYardModel" "trainCar" "[I" ∈ wsX5_couple := ty_m 1 (by decide +kernel)
theorem kX5_couple_1 : Cond.fieldLink RX5 43 "TrainYardModel" "trainSize" "[I" ∈ wsX5_couple := ty_m 2 (by decide +kernel)
theorem kX5_couple_2 : Cond.fieldLink RX5 31 "TrainYardModel" "used" "[I" ∈ wsX5_couple := ty_m 3 (by decide +kernel)
theorem kX5_couple_3 : Cond.fieldLink RX5 34 "TrainYardModel" "count" "[I" ∈ wsX5_couple := ty_m 4 (by decide +kernel)
theorem iX5_couple_X5 : ∀ w ∈ wsX50, w ∈ wsX5_couple := ty_inp _ [5, 6, 7, 8, 9, 10, 11, 12, 13, 14, 15, 16, 17, 18, 19, 20, 21, 22, 23, 24, 25, 26, 27, 28, 29, 30, 31, 32, 33, 34, 35] (by decide +kernel)
def eX5_couple (S : ty_S) (x1 : Int32) (x2 : Int32) (K : ty_S → Prop) : Prop :=
  (vp_in x1 41 ∧ (vp_in (((40 : Int32) * x1) + (S 41 x1.toNatClampNeg)) 1640 ∧ (vp_in x1 41 ∧ (vp_in x1 41 ∧ (vp_in x2 40 ∧ (vp_in x2 40 ∧ K (ty_st (ty_st (ty_st (ty_st S 42 (((40 : Int32) * x1) + (S 41 x1.toNatClampNeg)).toNatClampNeg x2) 41 x1.toNatClampNeg ((S 41 x1.toNatClampNeg) + (1 : Int32))) 37 x2.toNatClampNeg (0 : Int32)) 38 x2.toNatClampNeg (0 : Int32))))))))
set_option maxHeartbeats 4000000 in
set_option maxRecDepth 100000 in
theorem cX5_couple_C (l : Launch) (D : va_G) (cA : Nat → ClassId) (q : Nat → Nat) (S : ty_S) (x1 : Int32) (x2 : Int32) (K : ty_S → Prop) (h : eX5_couple S x1 x2 K) : ∀ sz, Met l yX5_couple wsX5_couple rX5_couple (ty_Pc D cA q ty_LM S sz [.ref (q 0), .int x1, .int x2]) (ty_Qv D cA q ty_LM sz K) 0 0 (ty_A q ty_LM.length sz) := by
  refine ty_ofM (ret := none) (maxL := 3) (cc := cX5_couple) (own := RX5) (Qc := fun sz => ty_Qv D cA q ty_LM sz K) (by decide +kernel) rfl (Nat.le_of_ble_eq_true rfl) rfl ?_
  intro p e s m args below meth c ls X hl Y
  have hx := X.1.1
  have hb := X.1.2.1
  have hl : lv_has ls 3 [(0, .ref (q 0)), (1, .int x1), (2, .int x2)] := hl
  unfold eX5_couple at h
  refine lv_aload_n hx hb dX5_couple_0 rfl (lv_at hl 0 rfl) ?_
  refine tg_X5_trainCar X Y iX5_couple_X5 kX5_couple_0 dX5_couple_1 ?_
  refine lv_bipush (v := (40 : Int32)) hx hb dX5_couple_4 (by decide) ?_
  refine lv_iload_n hx hb dX5_couple_6 rfl (lv_at hl 1 rfl) ?_
  refine lv_imul hx hb dX5_couple_7 ?_
  refine lv_aload_n hx hb dX5_couple_8 rfl (lv_at hl 0 rfl) ?_
  refine tg_X5_trainSize X Y iX5_couple_X5 kX5_couple_1 dX5_couple_9 ?_
  refine lv_iload_n hx hb dX5_couple_12 rfl (lv_at hl 1 rfl) ?_
  refine ty_iald (v := (S 41 x1.toNatClampNeg)) X Y 12 41 41 rfl h.1 rfl dX5_couple_13 ?_
  have h := h.2
  refine lv_iadd hx hb dX5_couple_14 ?_
  refine lv_iload_n hx hb dX5_couple_15 rfl (lv_at hl 2 rfl) ?_
  refine ty_iast X Y 13 1640 42 rfl (by decide) h.1 dX5_couple_16 (fun H locs Y => ?_)
  have h := h.2
  refine lv_aload_n hx hb dX5_couple_17 rfl (lv_at hl 0 rfl) ?_
  refine tg_X5_trainSize X Y iX5_couple_X5 kX5_couple_1 dX5_couple_18 ?_
  refine lv_iload_n hx hb dX5_couple_21 rfl (lv_at hl 1 rfl) ?_
  refine lv_dup2_11 hx hb dX5_couple_22 rfl rfl ?_
  refine ty_iald (v := (S 41 x1.toNatClampNeg)) X Y 12 41 41 rfl h.1 rfl dX5_couple_23 ?_
  have h := h.2
  refine lv_iconst (v := (1 : Int32)) hx hb dX5_couple_24 (by decide) ?_
  refine lv_iadd hx hb dX5_couple_25 ?_
  refine ty_iast X Y 12 41 41 rfl (by decide) h.1 dX5_couple_26 (fun H locs Y => ?_)
  have h := h.2
  refine lv_aload_n hx hb dX5_couple_27 rfl (lv_at hl 0 rfl) ?_
  refine tg_X5_used X Y iX5_couple_X5 kX5_couple_2 dX5_couple_28 ?_
  refine lv_iload_n hx hb dX5_couple_31 rfl (lv_at hl 2 rfl) ?_
  refine lv_iconst (v := (0 : Int32)) hx hb dX5_couple_32 (by decide) ?_
  refine ty_iast X Y 8 40 37 rfl (by decide) h.1 dX5_couple_33 (fun H locs Y => ?_)
  have h := h.2
  refine lv_aload_n hx hb dX5_couple_34 rfl (lv_at hl 0 rfl) ?_
  refine tg_X5_count X Y iX5_couple_X5 kX5_couple_3 dX5_couple_35 ?_
  refine lv_iload_n hx hb dX5_couple_38 rfl (lv_at hl 2 rfl) ?_
  refine lv_iconst (v := (0 : Int32)) hx hb dX5_couple_39 (by decide) ?_
  refine ty_iast X Y 9 40 38 rfl (by decide) h.1 dX5_couple_40 (fun H locs Y => ?_)
  have h := h.2
  exact ty_vret X Y h dX5_couple_41

abbrev rX5_newTrain : Room := { frames := 2, cells := 0, slots := 0, locals := 44 }
theorem kX5_newTrain_0 : Cond.fieldLink RX5 89 "TrainYardModel" "made" "I" ∈ wsX5_newTrain := ty_m 1 (by decide +kernel)
theorem kX5_newTrain_1 : Cond.fieldLink RX5 40 "TrainYardModel" "trainNumber" "[I" ∈ wsX5_newTrain := ty_m 2 (by decide +kernel)
theorem kX5_newTrain_2 : Cond.fieldLink RX5 78 "TrainYardModel" "trains" "I" ∈ wsX5_newTrain := ty_m 3 (by decide +kernel)
theorem kX5_newTrain_3 : Cond.fieldLink RX5 43 "TrainYardModel" "trainSize" "[I" ∈ wsX5_newTrain := ty_m 4 (by decide +kernel)
theorem iX5_newTrain_X5 : ∀ w ∈ wsX50, w ∈ wsX5_newTrain := ty_inp _ [21, 22, 23, 24, 25, 26, 27, 28, 29, 30, 31, 32, 33, 34, 35, 36, 37, 38, 39, 40, 41, 42, 43, 44, 45, 46, 47, 48, 49, 50, 51] (by decide +kernel)
def eX5_newTrain (S : ty_S)  (K : ty_S → Prop) : Prop :=
  (eX5_freeCar S  (fun S1 r1 => (vp_in (S1 50 0) 41 ∧ (vp_in (S1 50 0) 41 ∧ (eX5_couple (ty_st (ty_st (ty_st (ty_st S1 57 0 ((S1 57 0) + (1 : Int32))) 40 (S1 50 0).toNatClampNeg ((S1 57 0) + (1 : Int32))) 41 (S1 50 0).toNatClampNeg (0 : Int32)) 50 0 ((S1 50 0) + (1 : Int32))) (((S1 50 0) + (1 : Int32)) - (1 : Int32)) r1 (fun S2 => K S2))))))
set_option maxHeartbeats 4000000 in
set_option maxRecDepth 100000 in
theorem cX5_newTrain_C (l : Launch) (D : va_G) (cA : Nat → ClassId) (q : Nat → Nat) (S : ty_S)  (K : ty_S → Prop) (h : eX5_newTrain S  K) : ∀ sz, Met l yX5_newTrain wsX5_newTrain rX5_newTrain (ty_Pc D cA q ty_LM S sz [.ref (q 0)]) (ty_Qv D cA q ty_LM sz K) 0 0 (ty_A q ty_LM.length sz) := by
  refine ty_ofM (ret := none) (maxL := 2) (cc := cX5_newTrain) (own := RX5) (Qc := fun sz => ty_Qv D cA q ty_LM sz K) (by decide +kernel) rfl (Nat.le_of_ble_eq_true rfl) rfl ?_
  intro p e s m args below meth c ls X hl Y
  have hx := X.1.1
  have hb := X.1.2.1
  have hl : lv_has ls 2 [(0, .ref (q 0))] := hl
  unfold eX5_newTrain at h
  refine lv_aload_n hx hb dX5_newTrain_0 rfl (lv_at hl 0 rfl) ?_
  refine ty_Vi (As := []) (b := 0) (rest := []) X Y (cX5_freeCar_C l D cA q S  _ h) rfl rfl (fun hts => cwV 0 hts gX5_newTrain_X5_freeCar rfl rfl rfl (by decide +kernel) ⟨Nat.le_of_ble_eq_true rfl, Nat.le_of_ble_eq_true rfl⟩) rfl hl.1 (Nat.le_of_ble_eq_true rfl) dX5_newTrain_1 ⟨Nat.zero_le _, Nat.zero_le _⟩ (fun r1 S1 H locs h Y => ?_)
  refine lv_istore_n (lv' := [(1, .int r1), (0, .ref (q 0))]) hx hb dX5_newTrain_4 rfl hl (by decide) rfl (fun ls hl => ?_)
  refine lv_aload_n hx hb dX5_newTrain_5 rfl (lv_at hl 1 rfl) ?_
  refine lv_dup hx hb dX5_newTrain_6 rfl ?_
  refine tg_X5_made (v := (S1 57 0)) X Y iX5_newTrain_X5 kX5_newTrain_0 rfl dX5_newTrain_7 ?_
  refine lv_iconst (v := (1 : Int32)) hx hb dX5_newTrain_10 (by decide) ?_
  refine lv_iadd hx hb dX5_newTrain_11 ?_
  refine tp_X5_made X Y iX5_newTrain_X5 kX5_newTrain_0 dX5_newTrain_12 (fun H locs Y => ?_)
  refine lv_aload_n hx hb dX5_newTrain_15 rfl (lv_at hl 1 rfl) ?_
  refine tg_X5_trainNumber X Y iX5_newTrain_X5 kX5_newTrain_1 dX5_newTrain_16 ?_
  refine lv_aload_n hx hb dX5_newTrain_19 rfl (lv_at hl 1 rfl) ?_
  refine tg_X5_trains (v := (S1 50 0)) X Y iX5_newTrain_X5 kX5_newTrain_2 rfl dX5_newTrain_20 ?_
  refine lv_aload_n hx hb dX5_newTrain_23 rfl (lv_at hl 1 rfl) ?_
  refine tg_X5_made (v := ((S1 57 0) + (1 : Int32))) X Y iX5_newTrain_X5 kX5_newTrain_0 rfl dX5_newTrain_24 ?_
  refine ty_iast X Y 11 41 40 rfl (by decide) h.1 dX5_newTrain_27 (fun H locs Y => ?_)
  have h := h.2
  refine lv_aload_n hx hb dX5_newTrain_28 rfl (lv_at hl 1 rfl) ?_
  refine tg_X5_trainSize X Y iX5_newTrain_X5 kX5_newTrain_3 dX5_newTrain_29 ?_
  refine lv_aload_n hx hb dX5_newTrain_32 rfl (lv_at hl 1 rfl) ?_
  refine tg_X5_trains (v := (S1 50 0)) X Y iX5_newTrain_X5 kX5_newTrain_2 rfl dX5_newTrain_33 ?_
  refine lv_iconst (v := (0 : Int32)) hx hb dX5_newTrain_36 (by decide) ?_
  refine ty_iast X Y 12 41 41 rfl (by decide) h.1 dX5_newTrain_37 (fun H locs Y => ?_)
  have h := h.2
  refine lv_aload_n hx hb dX5_newTrain_38 rfl (lv_at hl 1 rfl) ?_
  refine lv_dup hx hb dX5_newTrain_39 rfl ?_
  refine tg_X5_trains (v := (S1 50 0)) X Y iX5_newTrain_X5 kX5_newTrain_2 rfl dX5_newTrain_40 ?_
  refine lv_iconst (v := (1 : Int32)) hx hb dX5_newTrain_43 (by decide) ?_
  refine lv_iadd hx hb dX5_newTrain_44 ?_
  refine tp_X5_trains X Y iX5_newTrain_X5 kX5_newTrain_2 dX5_newTrain_45 (fun H locs Y => ?_)
  refine lv_aload_n hx hb dX5_newTrain_48 rfl (lv_at hl 1 rfl) ?_
  refine lv_aload_n hx hb dX5_newTrain_49 rfl (lv_at hl 1 rfl) ?_
  refine tg_X5_trains (v := ((S1 50 0) + (1 : Int32))) X Y iX5_newTrain_X5 kX5_newTrain_2 rfl dX5_newTrain_50 ?_
  refine lv_iconst (v := (1 : Int32)) hx hb dX5_newTrain_53 (by decide) ?_
  refine lv_isub hx hb dX5_newTrain_54 ?_
  refine lv_iload_n hx hb dX5_newTrain_55 rfl (lv_at hl 0 rfl) ?_
  refine ty_Vv (As := [.int (((S1 50 0) + (1 : Int32)) - (1 : Int32)), .int r1]) (b := 0) (rest := []) X Y (cX5_couple_C l D cA q (ty_st (ty_st (ty_st (ty_st S1 57 0 ((S1 57 0) + (1 : Int32))) 40 (S1 50 0).toNatClampNeg ((S1 57 0) + (1 : Int32))) 41 (S1 50 0).toNatClampNeg (0 : Int32)) 50 0 ((S1 50 0) + (1 : Int32))) (((S1 50 0) + (1 : Int32)) - (1 : Int32)) r1 _ h) rfl rfl (fun hts => cwV 2 hts gX5_newTrain_X5_couple rfl rfl rfl (by decide +kernel) ⟨Nat.le_of_ble_eq_true rfl, Nat.le_of_ble_eq_true rfl⟩) rfl hl.1 (Nat.le_of_ble_eq_true rfl) dX5_newTrain_56 ⟨Nat.zero_le _, Nat.zero_le _⟩ (fun S2 H locs h Y => ?_)
  exact ty_vret X Y h dX5_newTrain_59

abbrev rX5_removeTrain : Room := { frames := 0, cells := 0, slots := 0, locals := 0 }
theorem kX5_removeTrain_0 : Cond.fieldLink RX5 78 "TrainYardModel" "trains" "I" ∈ wsX5_removeTrain := ty_m 1 (by decide +kernel)
theorem kX5_removeTrain_1 : Cond.fieldLink RX5 40 "TrainYardModel" "trainNumber" "[I" ∈ wsX5_removeTrain := ty_m 2 (by decide +kernel)
theorem kX5_removeTrain_2 : Cond.fieldLink RX5 43 "TrainYardModel" "trainSize" "[I" ∈ wsX5_removeTrain := ty_m 3 (by decide +kernel)
theorem kX5_removeTrain_3 : Cond.fieldLink RX5 46 "TrainYardModel" "trainCar" "[I" ∈ wsX5_removeTrain := ty_m 4 (by decide +kernel)
theorem iX5_removeTrain_X5 : ∀ w ∈ wsX50, w ∈ wsX5_removeTrain := ty_inp _ [5, 6, 7, 8, 9, 10, 11, 12, 13, 14, 15, 16, 17, 18, 19, 20, 21, 22, 23, 24, 25, 26, 27, 28, 29, 30, 31, 32, 33, 34, 35] (by decide +kernel)
def lX5_removeTrain_50 (K : ty_S → Prop) (R12 : Int32 → ty_S → Prop) : Nat → Int32 → Int32 → ty_S → Prop
  | 0, _, _, _ => False
  | n + 1, x2, x3, S => (if (40 : Int32) ≤ x3 then R12 (x2 + (1 : Int32)) S else (vp_in (((40 : Int32) * (x2 + (1 : Int32))) + x3) 1640 ∧ (vp_in (((40 : Int32) * x2) + x3) 1640 ∧ lX5_removeTrain_50 K R12 n x2 (x3 + (1 : Int32)) (ty_st S 42 (((40 : Int32) * x2) + x3).toNatClampNeg (S 42 (((40 : Int32) * (x2 + (1 : Int32))) + x3).toNatClampNeg)))))
set_option maxHeartbeats 4000000 in
set_option maxRecDepth 100000 in
theorem wlX5_removeTrain_50 {p : Program} {l : Launch} {e : Env} {s : State} {m : MethodId} {args : Array Value} {below : List Frame} {meth : Method} {c : Code} {D : va_G} {cA : Nat → ClassId} {q : Nat → Nat} {K : ty_S → Prop} {R12 : Int32 → ty_S → Prop} (X : ty_X D cA p s m args meth c cX5_removeTrain 4 none wsX5_removeTrain RX5) (hR12 : ∀ (x2 : Int32) (S : ty_S) (H : Heap) (locs : List Loc) (ls : Array Slot), R12 x2 S → ty_Y D cA q ty_LM S s H locs → lv_has ls 4 [(0, .ref (q 0)), (2, .int x2)] → W p l e rX5_removeTrain s m args below meth c H locs 0 0 (ty_MV D cA q ty_LM K below args s) (F0 m 12 ls [])) : ∀ (n : Nat) (x2 : Int32) (x3 : Int32) (S : ty_S) (H : Heap) (locs : List Loc) (ls : Array Slot), lX5_removeTrain_50 K R12 n x2 x3 S → ty_Y D cA q ty_LM S s H locs → lv_has ls 4 [(0, .ref (q 0)), (2, .int x2), (3, .int x3)] → W p l e rX5_removeTrain s m args below meth c H locs 0 0 (ty_MV D cA q ty_LM K below args s) (F0 m 50 ls []) := by
  have hx := X.1.1
  have hb := X.1.2.1
  intro n
  induction n with
  | zero =>
    intro x2 x3 S H locs ls h
    exact False.elim h
  | succ n ih =>
    intro x2 x3 S H locs ls h Y hl
    unfold lX5_removeTrain_50 at h
    refine lv_iload_n hx hb dX5_removeTrain_50 rfl (lv_at hl 2 rfl) ?_
    refine lv_bipush (v := (40 : Int32)) hx hb dX5_removeTrain_51 (by decide) ?_
    refine lv_icmp_ge (tgt := 86) hx hb dX5_removeTrain_53 (by decide) (fun c9 => ?_) (fun c9 => ?_)
    · have h := ty_t h c9
      refine lv_iinc (v := (x2 + (1 : Int32))) (lv' := [(2, .int (x2 + (1 : Int32))), (0, .ref (q 0)), (3, .int x3)]) hx hb dX5_removeTrain_86 hl (k := 1) rfl rfl (by decide) rfl (fun ls hl => ?_)
      refine lv_goto (tgt := 12) hx hb dX5_removeTrain_89 (by decide) ?_
      exact hR12 _ _ _ _ _ h Y (lv_sub hl [1, 0] rfl)
    · have h := ty_f h c9
      refine lv_aload_n hx hb dX5_removeTrain_56 rfl (lv_at hl 0 rfl) ?_
      refine tg_X5_trainCar X Y iX5_removeTrain_X5 kX5_removeTrain_3 dX5_removeTrain_57 ?_
      refine lv_bipush (v := (40 : Int32)) hx hb dX5_removeTrain_60 (by decide) ?_
      refine lv_iload_n hx hb dX5_removeTrain_62 rfl (lv_at hl 1 rfl) ?_
      refine lv_imul hx hb dX5_removeTrain_63 ?_
      refine lv_iload_n hx hb dX5_removeTrain_64 rfl (lv_at hl 2 rfl) ?_
      refine lv_iadd hx hb dX5_removeTrain_65 ?_
      refine lv_aload_n hx hb dX5_removeTrain_66 rfl (lv_at hl 0 rfl) ?_
      refine tg_X5_trainCar X Y iX5_removeTrain_X5 kX5_removeTrain_3 dX5_removeTrain_67 ?_
      refine lv_bipush (v := (40 : Int32)) hx hb dX5_removeTrain_70 (by decide) ?_
      refine lv_iload_n hx hb dX5_removeTrain_72 rfl (lv_at hl 1 rfl) ?_
      refine lv_iconst (v := (1 : Int32)) hx hb dX5_removeTrain_73 (by decide) ?_
      refine lv_iadd hx hb dX5_removeTrain_74 ?_
      refine lv_imul hx hb dX5_removeTrain_75 ?_
      refine lv_iload_n hx hb dX5_removeTrain_76 rfl (lv_at hl 2 rfl) ?_
      refine lv_iadd hx hb dX5_removeTrain_77 ?_
      refine ty_iald (v := (S 42 (((40 : Int32) * (x2 + (1 : Int32))) + x3).toNatClampNeg)) X Y 13 1640 42 rfl h.1 rfl dX5_removeTrain_78 ?_
      have h := h.2
      refine ty_iast X Y 13 1640 42 rfl (by decide) h.1 dX5_removeTrain_79 (fun H locs Y => ?_)
      have h := h.2
      refine lv_iinc (v := (x3 + (1 : Int32))) (lv' := [(3, .int (x3 + (1 : Int32))), (0, .ref (q 0)), (2, .int x2)]) hx hb dX5_removeTrain_80 hl (k := 2) rfl rfl (by decide) rfl (fun ls hl => ?_)
      refine lv_goto (tgt := 50) hx hb dX5_removeTrain_83 (by decide) ?_
      exact ih _ _ _ _ _ _ h Y (lv_sub hl [1, 2, 0] rfl)
def lX5_removeTrain_12 (K : ty_S → Prop)  : Nat → Int32 → ty_S → Prop
  | 0, _, _ => False
  | n + 1, x2, S => (if (S 50 0) ≤ x2 then K S else (vp_in (x2 + (1 : Int32)) 41 ∧ (vp_in x2 41 ∧ (vp_in (x2 + (1 : Int32)) 41 ∧ (vp_in x2 41 ∧ ∃ n9, lX5_removeTrain_50 K (fun a0 S9 => lX5_removeTrain_12 K  n a0 S9) n9 x2 (0 : Int32) (ty_st (ty_st S 40 x2.toNatClampNeg (S 40 (x2 + (1 : Int32)).toNatClampNeg)) 41 x2.toNatClampNeg (S 41 (x2 + (1 : Int32)).toNatClampNeg)))))))
set_option maxHeartbeats 4000000 in
set_option maxRecDepth 100000 in
theorem wlX5_removeTrain_12 {p : Program} {l : Launch} {e : Env} {s : State} {m : MethodId} {args : Array Value} {below : List Frame} {meth : Method} {c : Code} {D : va_G} {cA : Nat → ClassId} {q : Nat → Nat} {K : ty_S → Prop}  (X : ty_X D cA p s m args meth c cX5_removeTrain 4 none wsX5_removeTrain RX5)  : ∀ (n : Nat) (x2 : Int32) (S : ty_S) (H : Heap) (locs : List Loc) (ls : Array Slot), lX5_removeTrain_12 K  n x2 S → ty_Y D cA q ty_LM S s H locs → lv_has ls 4 [(0, .ref (q 0)), (2, .int x2)] → W p l e rX5_removeTrain s m args below meth c H locs 0 0 (ty_MV D cA q ty_LM K below args s) (F0 m 12 ls []) := by
  have hx := X.1.1
  have hb := X.1.2.1
  intro n
  induction n with
  | zero =>
    intro x2 S H locs ls h
    exact False.elim h
  | succ n ih =>
    intro x2 S H locs ls h Y hl
    unfold lX5_removeTrain_12 at h
    refine lv_iload_n hx hb dX5_removeTrain_12 rfl (lv_at hl 1 rfl) ?_
    refine lv_aload_n hx hb dX5_removeTrain_13 rfl (lv_at hl 0 rfl) ?_
    refine tg_X5_trains (v := (S 50 0)) X Y iX5_removeTrain_X5 kX5_removeTrain_0 rfl dX5_removeTrain_14 ?_
    refine lv_icmp_ge (tgt := 92) hx hb dX5_removeTrain_17 (by decide) (fun c9 => ?_) (fun c9 => ?_)
    · have h := ty_t h c9
      exact ty_vret X Y h dX5_removeTrain_92
    · have h := ty_f h c9
      refine lv_aload_n hx hb dX5_removeTrain_20 rfl (lv_at hl 0 rfl) ?_
      refine tg_X5_trainNumber X Y iX5_removeTrain_X5 kX5_removeTrain_1 dX5_removeTrain_21 ?_
      refine lv_iload_n hx hb dX5_removeTrain_24 rfl (lv_at hl 1 rfl) ?_
      refine lv_aload_n hx hb dX5_removeTrain_25 rfl (lv_at hl 0 rfl) ?_
      refine tg_X5_trainNumber X Y iX5_removeTrain_X5 kX5_removeTrain_1 dX5_removeTrain_26 ?_
      refine lv_iload_n hx hb dX5_removeTrain_29 rfl (lv_at hl 1 rfl) ?_
      refine lv_iconst (v := (1 : Int32)) hx hb dX5_removeTrain_30 (by decide) ?_
      refine lv_iadd hx hb dX5_removeTrain_31 ?_
      refine ty_iald (v := (S 40 (x2 + (1 : Int32)).toNatClampNeg)) X Y 11 41 40 rfl h.1 rfl dX5_removeTrain_32 ?_
      have h := h.2
      refine ty_iast X Y 11 41 40 rfl (by decide) h.1 dX5_removeTrain_33 (fun H locs Y => ?_)
      have h := h.2
      refine lv_aload_n hx hb dX5_removeTrain_34 rfl (lv_at hl 0 rfl) ?_
      refine tg_X5_trainSize X Y iX5_removeTrain_X5 kX5_removeTrain_2 dX5_removeTrain_35 ?_
      refine lv_iload_n hx hb dX5_removeTrain_38 rfl (lv_at hl 1 rfl) ?_
      refine lv_aload_n hx hb dX5_removeTrain_39 rfl (lv_at hl 0 rfl) ?_
      refine tg_X5_trainSize X Y iX5_removeTrain_X5 kX5_removeTrain_2 dX5_removeTrain_40 ?_
      refine lv_iload_n hx hb dX5_removeTrain_43 rfl (lv_at hl 1 rfl) ?_
      refine lv_iconst (v := (1 : Int32)) hx hb dX5_removeTrain_44 (by decide) ?_
      refine lv_iadd hx hb dX5_removeTrain_45 ?_
      refine ty_iald (v := (S 41 (x2 + (1 : Int32)).toNatClampNeg)) X Y 12 41 41 rfl h.1 rfl dX5_removeTrain_46 ?_
      have h := h.2
      refine ty_iast X Y 12 41 41 rfl (by decide) h.1 dX5_removeTrain_47 (fun H locs Y => ?_)
      have h := h.2
      refine lv_iconst (v := (0 : Int32)) hx hb dX5_removeTrain_48 (by decide) ?_
      refine lv_istore_n (lv' := [(3, .int (0 : Int32)), (0, .ref (q 0)), (2, .int x2)]) hx hb dX5_removeTrain_49 rfl hl (by decide) rfl (fun ls hl => ?_)
      obtain ⟨n9, h⟩ := h
      exact wlX5_removeTrain_50 X ih n9 _ _ _ _ _ _ h Y (lv_sub hl [1, 2, 0] rfl)
def eX5_removeTrain (S : ty_S) (x1 : Int32) (K : ty_S → Prop) : Prop :=
  ∃ n9, lX5_removeTrain_12 K  n9 x1 (ty_st S 50 0 ((S 50 0) - (1 : Int32)))
set_option maxHeartbeats 4000000 in
set_option maxRecDepth 100000 in
theorem cX5_removeTrain_C (l : Launch) (D : va_G) (cA : Nat → ClassId) (q : Nat → Nat) (S : ty_S) (x1 : Int32) (K : ty_S → Prop) (h : eX5_removeTrain S x1 K) : ∀ sz, Met l yX5_removeTrain wsX5_removeTrain rX5_removeTrain (ty_Pc D cA q ty_LM S sz [.ref (q 0), .int x1]) (ty_Qv D cA q ty_LM sz K) 0 0 (ty_A q ty_LM.length sz) := by
  refine ty_ofM (ret := none) (maxL := 4) (cc := cX5_removeTrain) (own := RX5) (Qc := fun sz => ty_Qv D cA q ty_LM sz K) (by decide +kernel) rfl (Nat.le_of_ble_eq_true rfl) rfl ?_
  intro p e s m args below meth c ls X hl Y
  have hx := X.1.1
  have hb := X.1.2.1
  have hl : lv_has ls 4 [(0, .ref (q 0)), (1, .int x1)] := hl
  unfold eX5_removeTrain at h
  refine lv_aload_n hx hb dX5_removeTrain_0 rfl (lv_at hl 0 rfl) ?_
  refine lv_dup hx hb dX5_removeTrain_1 rfl ?_
  refine tg_X5_trains (v := (S 50 0)) X Y iX5_removeTrain_X5 kX5_removeTrain_0 rfl dX5_removeTrain_2 ?_
  refine lv_iconst (v := (1 : Int32)) hx hb dX5_removeTrain_5 (by decide) ?_
  refine lv_isub hx hb dX5_removeTrain_6 ?_
  refine tp_X5_trains X Y iX5_removeTrain_X5 kX5_removeTrain_0 dX5_removeTrain_7 (fun H locs Y => ?_)
  refine lv_iload_n hx hb dX5_removeTrain_10 rfl (lv_at hl 1 rfl) ?_
  refine lv_istore_n (lv' := [(2, .int x1), (0, .ref (q 0)), (1, .int x1)]) hx hb dX5_removeTrain_11 rfl hl (by decide) rfl (fun ls hl => ?_)
  obtain ⟨n9, h⟩ := h
  exact wlX5_removeTrain_12 X  n9 _ _ _ _ _ h Y (lv_sub hl [1, 0] rfl)

abbrev rX5_rank : Room := { frames := 0, cells := 0, slots := 0, locals := 0 }
theorem kX5_rank_0 : Cond.fieldLink RX5 78 "TrainYardModel" "trains" "I" ∈ wsX5_rank := ty_m 1 (by decide +kernel)
theorem kX5_rank_1 : Cond.fieldLink RX5 43 "TrainYardModel" "trainSize" "[I" ∈ wsX5_rank := ty_m 2 (by decide +kernel)
theorem kX5_rank_2 : Cond.fieldLink RX5 46 "TrainYardModel" "trainCar" "[I" ∈ wsX5_rank := ty_m 3 (by decide +kernel)
theorem iX5_rank_X5 : ∀ w ∈ wsX50, w ∈ wsX5_rank := ty_inp _ [4, 5, 6, 7, 8, 9, 10, 11, 12, 13, 14, 15, 16, 17, 18, 19, 20, 21, 22, 23, 24, 25, 26, 27, 28, 29, 30, 31, 32, 33, 34] (by decide +kernel)
def lX5_rank_15 (K : ty_S → Int32 → Prop) (R4 : Int32 → Int32 → Int32 → ty_S → Prop) : Nat → Int32 → Int32 → Int32 → Int32 → ty_S → Prop
  | 0, _, _, _, _, _ => False
  | n + 1, x1, x2, x3, x4, S => (vp_in x3 41 ∧ (if (S 41 x3.toNatClampNeg) ≤ x4 then R4 x1 x2 (x3 + (1 : Int32)) S else (vp_in (((40 : Int32) * x3) + x4) 1640 ∧ (if (S 42 (((40 : Int32) * x3) + x4).toNatClampNeg) = x1 then K S x2 else lX5_rank_15 K R4 n x1 (x2 + (1 : Int32)) x3 (x4 + (1 : Int32)) S))))
set_option maxHeartbeats 4000000 in
set_option maxRecDepth 100000 in
theorem wlX5_rank_15 {p : Program} {l : Launch} {e : Env} {s : State} {m : MethodId} {args : Array Value} {below : List Frame} {meth : Method} {c : Code} {D : va_G} {cA : Nat → ClassId} {q : Nat → Nat} {K : ty_S → Int32 → Prop} {R4 : Int32 → Int32 → Int32 → ty_S → Prop} (X : ty_X D cA p s m args meth c cX5_rank 5 (some .int) wsX5_rank RX5) (hR4 : ∀ (x1 : Int32) (x2 : Int32) (x3 : Int32) (S : ty_S) (H : Heap) (locs : List Loc) (ls : Array Slot), R4 x1 x2 x3 S → ty_Y D cA q ty_LM S s H locs → lv_has ls 5 [(0, .ref (q 0)), (1, .int x1), (2, .int x2), (3, .int x3)] → W p l e rX5_rank s m args below meth c H locs 0 0 (ty_MI D cA q ty_LM K below args s) (F0 m 4 ls [])) : ∀ (n : Nat) (x1 : Int32) (x2 : Int32) (x3 : Int32) (x4 : Int32) (S : ty_S) (H : Heap) (locs : List Loc) (ls : Array Slot), lX5_rank_15 K R4 n x1 x2 x3 x4 S → ty_Y D cA q ty_LM S s H locs → lv_has ls 5 [(0, .ref (q 0)), (1, .int x1), (2, .int x2), (3, .int x3), (4, .int x4)] → W p l e rX5_rank s m args below meth c H locs 0 0 (ty_MI D cA q ty_LM K below args s) (F0 m 15 ls []) := by
  have hx := X.1.1
  have hb := X.1.2.1
  intro n
  induction n with
  | zero =>
    intro x1 x2 x3 x4 S H locs ls h
    exact False.elim h
  | succ n ih =>
    intro x1 x2 x3 x4 S H locs ls h Y hl
    unfold lX5_rank_15 at h
    refine lv_iload hx hb dX5_rank_15 (lv_at hl 4 rfl) ?_
    refine lv_aload_n hx hb dX5_rank_17 rfl (lv_at hl 0 rfl) ?_
    refine tg_X5_trainSize X Y iX5_rank_X5 kX5_rank_1 dX5_rank_18 ?_
    refine lv_iload_n hx hb dX5_rank_21 rfl (lv_at hl 3 rfl) ?_
    refine ty_iald (v := (S 41 x3.toNatClampNeg)) X Y 12 41 41 rfl h.1 rfl dX5_rank_22 ?_
    have h := h.2
    refine lv_icmp_ge (tgt := 53) hx hb dX5_rank_23 (by decide) (fun c9 => ?_) (fun c9 => ?_)
    · have h := ty_t h c9
      refine lv_iinc (v := (x3 + (1 : Int32))) (lv' := [(3, .int (x3 + (1 : Int32))), (0, .ref (q 0)), (1, .int x1), (2, .int x2), (4, .int x4)]) hx hb dX5_rank_53 hl (k := 3) rfl rfl (by decide) rfl (fun ls hl => ?_)
      refine lv_goto (tgt := 4) hx hb dX5_rank_56 (by decide) ?_
      exact hR4 _ _ _ _ _ _ _ h Y (lv_sub hl [1, 2, 3, 0] rfl)
    · have h := ty_f h c9
      refine lv_aload_n hx hb dX5_rank_26 rfl (lv_at hl 0 rfl) ?_
      refine tg_X5_trainCar X Y iX5_rank_X5 kX5_rank_2 dX5_rank_27 ?_
      refine lv_bipush (v := (40 : Int32)) hx hb dX5_rank_30 (by decide) ?_
      refine lv_iload_n hx hb dX5_rank_32 rfl (lv_at hl 3 rfl) ?_
      refine lv_imul hx hb dX5_rank_33 ?_
      refine lv_iload hx hb dX5_rank_34 (lv_at hl 4 rfl) ?_
      refine lv_iadd hx hb dX5_rank_36 ?_
      refine ty_iald (v := (S 42 (((40 : Int32) * x3) + x4).toNatClampNeg)) X Y 13 1640 42 rfl h.1 rfl dX5_rank_37 ?_
      have h := h.2
      refine lv_iload_n hx hb dX5_rank_38 rfl (lv_at hl 1 rfl) ?_
      refine lv_icmp_ne (tgt := 44) hx hb dX5_rank_39 (by decide) (fun c9 => ?_) (fun c9 => ?_)
      · have h := ty_f h c9
        refine lv_iinc (v := (x2 + (1 : Int32))) (lv' := [(2, .int (x2 + (1 : Int32))), (0, .ref (q 0)), (1, .int x1), (3, .int x3), (4, .int x4)]) hx hb dX5_rank_44 hl (k := 2) rfl rfl (by decide) rfl (fun ls hl => ?_)
        refine lv_iinc (v := (x4 + (1 : Int32))) (lv' := [(4, .int (x4 + (1 : Int32))), (2, .int (x2 + (1 : Int32))), (0, .ref (q 0)), (1, .int x1), (3, .int x3)]) hx hb dX5_rank_47 hl (k := 4) rfl rfl (by decide) rfl (fun ls hl => ?_)
        refine lv_goto (tgt := 15) hx hb dX5_rank_50 (by decide) ?_
        exact ih _ _ _ _ _ _ _ _ h Y (lv_sub hl [2, 3, 1, 4, 0] rfl)
      · have h := ty_t h c9
        refine lv_iload_n hx hb dX5_rank_42 rfl (lv_at hl 2 rfl) ?_
        exact ty_iret X Y h dX5_rank_43
def lX5_rank_4 (K : ty_S → Int32 → Prop)  : Nat → Int32 → Int32 → Int32 → ty_S → Prop
  | 0, _, _, _, _ => False
  | n + 1, x1, x2, x3, S => (if (S 50 0) ≤ x3 then K S x2 else ∃ n9, lX5_rank_15 K (fun a0 a1 a2 S9 => lX5_rank_4 K  n a0 a1 a2 S9) n9 x1 x2 x3 (0 : Int32) S)
set_option maxHeartbeats 4000000 in
set_option maxRecDepth 100000 in
theorem wlX5_rank_4 {p : Program} {l : Launch} {e : Env} {s : State} {m : MethodId} {args : Array Value} {below : List Frame} {meth : Method} {c : Code} {D : va_G} {cA : Nat → ClassId} {q : Nat → Nat} {K : ty_S → Int32 → Prop}  (X : ty_X D cA p s m args meth c cX5_rank 5 (some .int) wsX5_rank RX5)  : ∀ (n : Nat) (x1 : Int32) (x2 : Int32) (x3 : Int32) (S : ty_S) (H : Heap) (locs : List Loc) (ls : Array Slot), lX5_rank_4 K  n x1 x2 x3 S → ty_Y D cA q ty_LM S s H locs → lv_has ls 5 [(0, .ref (q 0)), (1, .int x1), (2, .int x2), (3, .int x3)] → W p l e rX5_rank s m args below meth c H locs 0 0 (ty_MI D cA q ty_LM K below args s) (F0 m 4 ls []) := by
  have hx := X.1.1
  have hb := X.1.2.1
  intro n
  induction n with
  | zero =>
    intro x1 x2 x3 S H locs ls h
    exact False.elim h
  | succ n ih =>
    intro x1 x2 x3 S H locs ls h Y hl
    unfold lX5_rank_4 at h
    refine lv_iload_n hx hb dX5_rank_4 rfl (lv_at hl 3 rfl) ?_
    refine lv_aload_n hx hb dX5_rank_5 rfl (lv_at hl 0 rfl) ?_
    refine tg_X5_trains (v := (S 50 0)) X Y iX5_rank_X5 kX5_rank_0 rfl dX5_rank_6 ?_
    refine lv_icmp_ge (tgt := 59) hx hb dX5_rank_9 (by decide) (fun c9 => ?_) (fun c9 => ?_)
    · have h := ty_t h c9
      refine lv_iload_n hx hb dX5_rank_59 rfl (lv_at hl 2 rfl) ?_
      exact ty_iret X Y h dX5_rank_60
    · have h := ty_f h c9
      refine lv_iconst (v := (0 : Int32)) hx hb dX5_rank_12 (by decide) ?_
      refine lv_istore (lv' := [(4, .int (0 : Int32)), (0, .ref (q 0)), (1, .int x1), (2, .int x2), (3, .int x3)]) hx hb dX5_rank_13 hl (by decide) rfl (fun ls hl => ?_)
      obtain ⟨n9, h⟩ := h
      exact wlX5_rank_15 X ih n9 _ _ _ _ _ _ _ _ h Y (lv_sub hl [1, 2, 3, 4, 0] rfl)
def eX5_rank (S : ty_S) (x1 : Int32) (K : ty_S → Int32 → Prop) : Prop :=
  ∃ n9, lX5_rank_4 K  n9 x1 (0 : Int32) (0 : Int32) S
set_option maxHeartbeats 4000000 in
set_option maxRecDepth 100000 in
theorem cX5_rank_C (l : Launch) (D : va_G) (cA : Nat → ClassId) (q : Nat → Nat) (S : ty_S) (x1 : Int32) (K : ty_S → Int32 → Prop) (h : eX5_rank S x1 K) : ∀ sz, Met l yX5_rank wsX5_rank rX5_rank (ty_Pc D cA q ty_LM S sz [.ref (q 0), .int x1]) (ty_Qi D cA q ty_LM sz K) 0 0 (ty_A q ty_LM.length sz) := by
  refine ty_ofM (ret := (some .int)) (maxL := 5) (cc := cX5_rank) (own := RX5) (Qc := fun sz => ty_Qi D cA q ty_LM sz K) (by decide +kernel) rfl (Nat.le_of_ble_eq_true rfl) rfl ?_
  intro p e s m args below meth c ls X hl Y
  have hx := X.1.1
  have hb := X.1.2.1
  have hl : lv_has ls 5 [(0, .ref (q 0)), (1, .int x1)] := hl
  unfold eX5_rank at h
  refine lv_iconst (v := (0 : Int32)) hx hb dX5_rank_0 (by decide) ?_
  refine lv_istore_n (lv' := [(2, .int (0 : Int32)), (0, .ref (q 0)), (1, .int x1)]) hx hb dX5_rank_1 rfl hl (by decide) rfl (fun ls hl => ?_)
  refine lv_iconst (v := (0 : Int32)) hx hb dX5_rank_2 (by decide) ?_
  refine lv_istore_n (lv' := [(3, .int (0 : Int32)), (2, .int (0 : Int32)), (0, .ref (q 0)), (1, .int x1)]) hx hb dX5_rank_3 rfl hl (by decide) rfl (fun ls hl => ?_)
  obtain ⟨n9, h⟩ := h
  exact wlX5_rank_4 X  n9 _ _ _ _ _ _ _ h Y (lv_sub hl [2, 3, 1, 0] rfl)

abbrev rX5_hasRoom : Room := { frames := 0, cells := 0, slots := 0, locals := 0 }
theorem kX5_hasRoom_0 : Cond.fieldLink RX5 31 "TrainYardModel" "used" "[I" ∈ wsX5_hasRoom := ty_m 1 (by decide +kernel)
theorem iX5_hasRoom_X5 : ∀ w ∈ wsX50, w ∈ wsX5_hasRoom := ty_inp _ [2, 3, 4, 5, 6, 7, 8, 9, 10, 11, 12, 13, 14, 15, 16, 17, 18, 19, 20, 21, 22, 23, 24, 25, 26, 27, 28, 29, 30, 31, 32] (by decide +kernel)
def eX5_hasRoom (S : ty_S) (x1 : Int32) (x2 : Int32) (K : ty_S → Int32 → Prop) : Prop :=
  (vp_in x1 40 ∧ (if ((32 : Int32) - (S 37 x1.toNatClampNeg)) < x2 then K S (0 : Int32) else K S (1 : Int32)))
set_option maxHeartbeats 4000000 in
set_option maxRecDepth 100000 in
theorem cX5_hasRoom_C (l : Launch) (D : va_G) (cA : Nat → ClassId) (q : Nat → Nat) (S : ty_S) (x1 : Int32) (x2 : Int32) (K : ty_S → Int32 → Prop) (h : eX5_hasRoom S x1 x2 K) : ∀ sz, Met l yX5_hasRoom wsX5_hasRoom rX5_hasRoom (ty_Pc D cA q ty_LM S sz [.ref (q 0), .int x1, .int x2]) (ty_Qi D cA q ty_LM sz K) 0 0 (ty_A q ty_LM.length sz) := by
  refine ty_ofM (ret := (some .boolean)) (maxL := 3) (cc := cX5_hasRoom) (own := RX5) (Qc := fun sz => ty_Qi D cA q ty_LM sz K) (by decide +kernel) rfl (Nat.le_of_ble_eq_true rfl) rfl ?_
  intro p e s m args below meth c ls X hl Y
  have hx := X.1.1
  have hb := X.1.2.1
  have hl : lv_has ls 3 [(0, .ref (q 0)), (1, .int x1), (2, .int x2)] := hl
  unfold eX5_hasRoom at h
  refine lv_bipush (v := (32 : Int32)) hx hb dX5_hasRoom_0 (by decide) ?_
  refine lv_aload_n hx hb dX5_hasRoom_2 rfl (lv_at hl 0 rfl) ?_
  refine tg_X5_used X Y iX5_hasRoom_X5 kX5_hasRoom_0 dX5_hasRoom_3 ?_
  refine lv_iload_n hx hb dX5_hasRoom_6 rfl (lv_at hl 1 rfl) ?_
  refine ty_iald (v := (S 37 x1.toNatClampNeg)) X Y 8 40 37 rfl h.1 rfl dX5_hasRoom_7 ?_
  have h := h.2
  refine lv_isub hx hb dX5_hasRoom_8 ?_
  refine lv_iload_n hx hb dX5_hasRoom_9 rfl (lv_at hl 2 rfl) ?_
  refine lv_icmp_lt (tgt := 17) hx hb dX5_hasRoom_10 (by decide) (fun c9 => ?_) (fun c9 => ?_)
  · have h := ty_t h c9
    refine lv_iconst (v := (0 : Int32)) hx hb dX5_hasRoom_17 (by decide) ?_
    exact ty_zret X Y h rfl dX5_hasRoom_18
  · have h := ty_f h c9
    refine lv_iconst (v := (1 : Int32)) hx hb dX5_hasRoom_13 (by decide) ?_
    refine lv_goto (tgt := 18) hx hb dX5_hasRoom_14 (by decide) ?_
    exact ty_zret X Y h rfl dX5_hasRoom_18

abbrev rX5_wordsOf : Room := { frames := 0, cells := 0, slots := 0, locals := 0 }
theorem kX5_wordsOf_0 : Cond.fieldLink RX5 19 "TrainYardModel" "references" "[I" ∈ wsX5_wordsOf := ty_m 1 (by decide +kernel)
theorem kX5_wordsOf_1 : Cond.fieldLink RX5 22 "TrainYardModel" "numbers" "[I" ∈ wsX5_wordsOf := ty_m 2 (by decide +kernel)
theorem iX5_wordsOf_X5 : ∀ w ∈ wsX50, w ∈ wsX5_wordsOf := ty_inp _ [3, 4, 5, 6, 7, 8, 9, 10, 11, 12, 13, 14, 15, 16, 17, 18, 19, 20, 21, 22, 23, 24, 25, 26, 27, 28, 29, 30, 31, 32, 33] (by decide +kernel)
def eX5_wordsOf (S : ty_S) (x1 : Int32) (K : ty_S → Int32 → Prop) : Prop :=
  (vp_in x1 640 ∧ (vp_in x1 640 ∧ K S (((2 : Int32) + (S 33 x1.toNatClampNeg)) + (S 34 x1.toNatClampNeg))))
set_option maxHeartbeats 4000000 in
set_option maxRecDepth 100000 in
theorem cX5_wordsOf_C (l : Launch) (D : va_G) (cA : Nat → ClassId) (q : Nat → Nat) (S : ty_S) (x1 : Int32) (K : ty_S → Int32 → Prop) (h : eX5_wordsOf S x1 K) : ∀ sz, Met l yX5_wordsOf wsX5_wordsOf rX5_wordsOf (ty_Pc D cA q ty_LM S sz [.ref (q 0), .int x1]) (ty_Qi D cA q ty_LM sz K) 0 0 (ty_A q ty_LM.length sz) := by
  refine ty_ofM (ret := (some .int)) (maxL := 2) (cc := cX5_wordsOf) (own := RX5) (Qc := fun sz => ty_Qi D cA q ty_LM sz K) (by decide +kernel) rfl (Nat.le_of_ble_eq_true rfl) rfl ?_
  intro p e s m args below meth c ls X hl Y
  have hx := X.1.1
  have hb := X.1.2.1
  have hl : lv_has ls 2 [(0, .ref (q 0)), (1, .int x1)] := hl
  unfold eX5_wordsOf at h
  refine lv_iconst (v := (2 : Int32)) hx hb dX5_wordsOf_0 (by decide) ?_
  refine lv_aload_n hx hb dX5_wordsOf_1 rfl (lv_at hl 0 rfl) ?_
  refine tg_X5_references X Y iX5_wordsOf_X5 kX5_wordsOf_0 dX5_wordsOf_2 ?_
  refine lv_iload_n hx hb dX5_wordsOf_5 rfl (lv_at hl 1 rfl) ?_
  refine ty_iald (v := (S 33 x1.toNatClampNeg)) X Y 4 640 33 rfl h.1 rfl dX5_wordsOf_6 ?_
  have h := h.2
  refine lv_iadd hx hb dX5_wordsOf_7 ?_
  refine lv_aload_n hx hb dX5_wordsOf_8 rfl (lv_at hl 0 rfl) ?_
  refine tg_X5_numbers X Y iX5_wordsOf_X5 kX5_wordsOf_1 dX5_wordsOf_9 ?_
  refine lv_iload_n hx hb dX5_wordsOf_12 rfl (lv_at hl 1 rfl) ?_
  refine ty_iald (v := (S 34 x1.toNatClampNeg)) X Y 5 640 34 rfl h.1 rfl dX5_wordsOf_13 ?_
  have h := h.2
  refine lv_iadd hx hb dX5_wordsOf_14 ?_
  exact ty_iret X Y h dX5_wordsOf_15

abbrev rX5_lay : Room := { frames := 1, cells := 0, slots := 0, locals := 21 }
theorem kX5_lay_0 : Cond.fieldLink RX5 13 "TrainYardModel" "home" "[I" ∈ wsX5_lay := ty_m 1 (by decide +kernel)
theorem kX5_lay_1 : Cond.fieldLink RX5 16 "TrainYardModel" "offset" "[I" ∈ wsX5_lay := ty_m 2 (by decide +kernel)
theorem kX5_lay_2 : Cond.fieldLink RX5 31 "TrainYardModel" "used" "[I" ∈ wsX5_lay := ty_m 3 (by decide +kernel)
theorem kX5_lay_3 : Cond.fieldLink RX5 37 "TrainYardModel" "has" "[I" ∈ wsX5_lay := ty_m 4 (by decide +kernel)
theorem kX5_lay_4 : Cond.fieldLink RX5 34 "TrainYardModel" "count" "[I" ∈ wsX5_lay := ty_m 5 (by decide +kernel)
theorem iX5_lay_X5 : ∀ w ∈ wsX50, w ∈ wsX5_lay := ty_inp _ [13, 14, 15, 16, 17, 18, 19, 20, 21, 22, 23, 24, 25, 26, 27, 28, 29, 30, 31, 32, 33, 34, 35, 36, 37, 38, 39, 40, 41, 42, 43] (by decide +kernel)
def eX5_lay (S : ty_S) (x1 : Int32) (x2 : Int32) (K : ty_S → Prop) : Prop :=
  (vp_in x1 640 ∧ (vp_in x2 40 ∧ (vp_in x1 640 ∧ (vp_in x2 40 ∧ (vp_in (((16 : Int32) * x2) + (S 38 x2.toNatClampNeg)) 640 ∧ (vp_in x2 40 ∧ (vp_in x2 40 ∧ (vp_in x2 40 ∧ (eX5_wordsOf (ty_st (ty_st (ty_st (ty_st S 31 x1.toNatClampNeg x2) 32 x1.toNatClampNeg (S 37 x2.toNatClampNeg)) 39 (((16 : Int32) * x2) + (S 38 x2.toNatClampNeg)).toNatClampNeg x1) 38 x2.toNatClampNeg ((S 38 x2.toNatClampNeg) + (1 : Int32))) x1 (fun S1 r1 => (vp_in x2 40 ∧ K (ty_st S1 37 x2.toNatClampNeg ((S 37 x2.toNatClampNeg) + r1)))))))))))))
set_option maxHeartbeats 4000000 in
set_option maxRecDepth 100000 in
theorem cX5_lay_C (l : Launch) (D : va_G) (cA : Nat → ClassId) (q : Nat → Nat) (S : ty_S) (x1 : Int32) (x2 : Int32) (K : ty_S → Prop) (h : eX5_lay S x1 x2 K) : ∀ sz, Met l yX5_lay wsX5_lay rX5_lay (ty_Pc D cA q ty_LM S sz [.ref (q 0), .int x1, .int x2]) (ty_Qv D cA q ty_LM sz K) 0 0 (ty_A q ty_LM.length sz) := by
  refine ty_ofM (ret := none) (maxL := 3) (cc := cX5_lay) (own := RX5) (Qc := fun sz => ty_Qv D cA q ty_LM sz K) (by decide +kernel) rfl (Nat.le_of_ble_eq_true rfl) rfl ?_
  intro p e s m args below meth c ls X hl Y
  have hx := X.1.1
  have hb := X.1.2.1
  have hl : lv_has ls 3 [(0, .ref (q 0)), (1, .int x1), (2, .int x2)] := hl
  unfold eX5_lay at h
  refine lv_aload_n hx hb dX5_lay_0 rfl (lv_at hl 0 rfl) ?_
  refine tg_X5_home X Y iX5_lay_X5 kX5_lay_0 dX5_lay_1 ?_
  refine lv_iload_n hx hb dX5_lay_4 rfl (lv_at hl 1 rfl) ?_
  refine lv_iload_n hx hb dX5_lay_5 rfl (lv_at hl 2 rfl) ?_
  refine ty_iast X Y 2 640 31 rfl (by decide) h.1 dX5_lay_6 (fun H locs Y => ?_)
  have h := h.2
  refine lv_aload_n hx hb dX5_lay_7 rfl (lv_at hl 0 rfl) ?_
  refine tg_X5_offset X Y iX5_lay_X5 kX5_lay_1 dX5_lay_8 ?_
  refine lv_iload_n hx hb dX5_lay_11 rfl (lv_at hl 1 rfl) ?_
  refine lv_aload_n hx hb dX5_lay_12 rfl (lv_at hl 0 rfl) ?_
  refine tg_X5_used X Y iX5_lay_X5 kX5_lay_2 dX5_lay_13 ?_
  refine lv_iload_n hx hb dX5_lay_16 rfl (lv_at hl 2 rfl) ?_
  refine ty_iald (v := (S 37 x2.toNatClampNeg)) X Y 8 40 37 rfl h.1 rfl dX5_lay_17 ?_
  have h := h.2
  refine ty_iast X Y 3 640 32 rfl (by decide) h.1 dX5_lay_18 (fun H locs Y => ?_)
  have h := h.2
  refine lv_aload_n hx hb dX5_lay_19 rfl (lv_at hl 0 rfl) ?_
  refine tg_X5_has X Y iX5_lay_X5 kX5_lay_3 dX5_lay_20 ?_
  refine lv_bipush (v := (16 : Int32)) hx hb dX5_lay_23 (by decide) ?_
  refine lv_iload_n hx hb dX5_lay_25 rfl (lv_at hl 2 rfl) ?_
  refine lv_imul hx hb dX5_lay_26 ?_
  refine lv_aload_n hx hb dX5_lay_27 rfl (lv_at hl 0 rfl) ?_
  refine tg_X5_count X Y iX5_lay_X5 kX5_lay_4 dX5_lay_28 ?_
  refine lv_iload_n hx hb dX5_lay_31 rfl (lv_at hl 2 rfl) ?_
  refine ty_iald (v := (S 38 x2.toNatClampNeg)) X Y 9 40 38 rfl h.1 rfl dX5_lay_32 ?_
  have h := h.2
  refine lv_iadd hx hb dX5_lay_33 ?_
  refine lv_iload_n hx hb dX5_lay_34 rfl (lv_at hl 1 rfl) ?_
  refine ty_iast X Y 10 640 39 rfl (by decide) h.1 dX5_lay_35 (fun H locs Y => ?_)
  have h := h.2
  refine lv_aload_n hx hb dX5_lay_36 rfl (lv_at hl 0 rfl) ?_
  refine tg_X5_count X Y iX5_lay_X5 kX5_lay_4 dX5_lay_37 ?_
  refine lv_iload_n hx hb dX5_lay_40 rfl (lv_at hl 2 rfl) ?_
  refine lv_dup2_11 hx hb dX5_lay_41 rfl rfl ?_
  refine ty_iald (v := (S 38 x2.toNatClampNeg)) X Y 9 40 38 rfl h.1 rfl dX5_lay_42 ?_
  have h := h.2
  refine lv_iconst (v := (1 : Int32)) hx hb dX5_lay_43 (by decide) ?_
  refine lv_iadd hx hb dX5_lay_44 ?_
  refine ty_iast X Y 9 40 38 rfl (by decide) h.1 dX5_lay_45 (fun H locs Y => ?_)
  have h := h.2
  refine lv_aload_n hx hb dX5_lay_46 rfl (lv_at hl 0 rfl) ?_
  refine tg_X5_used X Y iX5_lay_X5 kX5_lay_2 dX5_lay_47 ?_
  refine lv_iload_n hx hb dX5_lay_50 rfl (lv_at hl 2 rfl) ?_
  refine lv_dup2_11 hx hb dX5_lay_51 rfl rfl ?_
  refine ty_iald (v := (S 37 x2.toNatClampNeg)) X Y 8 40 37 rfl h.1 rfl dX5_lay_52 ?_
  have h := h.2
  refine lv_aload_n hx hb dX5_lay_53 rfl (lv_at hl 0 rfl) ?_
  refine lv_iload_n hx hb dX5_lay_54 rfl (lv_at hl 1 rfl) ?_
  refine ty_Vi (As := [.int x1]) (b := 0) (rest := [.int (S 37 x2.toNatClampNeg), .int x2, .ref (q 8)]) X Y (cX5_wordsOf_C l D cA q (ty_st (ty_st (ty_st (ty_st S 31 x1.toNatClampNeg x2) 32 x1.toNatClampNeg (S 37 x2.toNatClampNeg)) 39 (((16 : Int32) * x2) + (S 38 x2.toNatClampNeg)).toNatClampNeg x1) 38 x2.toNatClampNeg ((S 38 x2.toNatClampNeg) + (1 : Int32))) x1 _ h) rfl rfl (fun hts => cwV 1 hts gX5_lay_X5_wordsOf rfl rfl rfl (by decide +kernel) ⟨Nat.le_of_ble_eq_true rfl, Nat.le_of_ble_eq_true rfl⟩) rfl hl.1 (Nat.le_of_ble_eq_true rfl) dX5_lay_55 ⟨Nat.zero_le _, Nat.zero_le _⟩ (fun r1 S1 H locs h Y => ?_)
  refine lv_iadd hx hb dX5_lay_58 ?_
  refine ty_iast X Y 8 40 37 rfl (by decide) h.1 dX5_lay_59 (fun H locs Y => ?_)
  have h := h.2
  exact ty_vret X Y h dX5_lay_60

abbrev rX5_carFor : Room := { frames := 2, cells := 0, slots := 0, locals := 44 }
theorem kX5_carFor_0 : Cond.fieldLink RX5 56 "TrainYardModel" "emptied" "I" ∈ wsX5_carFor := ty_m 1 (by decide +kernel)
theorem kX5_carFor_1 : Cond.fieldLink RX5 78 "TrainYardModel" "trains" "I" ∈ wsX5_carFor := ty_m 2 (by decide +kernel)
theorem kX5_carFor_2 : Cond.fieldLink RX5 43 "TrainYardModel" "trainSize" "[I" ∈ wsX5_carFor := ty_m 3 (by decide +kernel)
theorem kX5_carFor_3 : Cond.fieldLink RX5 46 "TrainYardModel" "trainCar" "[I" ∈ wsX5_carFor := ty_m 4 (by decide +kernel)
theorem iX5_carFor_X5 : ∀ w ∈ wsX50, w ∈ wsX5_carFor := ty_inp _ [28, 29, 30, 31, 32, 33, 34, 35, 36, 37, 38, 39, 40, 41, 42, 43, 44, 45, 46, 47, 48, 49, 50, 51, 52, 53, 54, 55, 56, 57, 58] (by decide +kernel)
def lX5_carFor_64 (K : ty_S → Int32 → Prop) (R52 : Int32 → Int32 → Int32 → ty_S → Prop) : Nat → Int32 → Int32 → Int32 → Int32 → ty_S → Prop
  | 0, _, _, _, _, _ => False
  | n + 1, x2, x5, x6, x7, S => (vp_in x6 41 ∧ (if (S 41 x6.toNatClampNeg) ≤ x7 then R52 x2 x5 (x6 + (1 : Int32)) S else (vp_in (((40 : Int32) * x6) + x7) 1640 ∧ (if (S 42 (((40 : Int32) * x6) + x7).toNatClampNeg) = (S 59 0) then lX5_carFor_64 K R52 n x2 x5 x6 (x7 + (1 : Int32)) S else (eX5_hasRoom S (S 42 (((40 : Int32) * x6) + x7).toNatClampNeg) x2 (fun S3 r3 => (if r3 = (0 : Int32) then lX5_carFor_64 K R52 n x2 x5 x6 (x7 + (1 : Int32)) S3 else lX5_carFor_64 K R52 n x2 (S 42 (((40 : Int32) * x6) + x7).toNatClampNeg) x6 (x7 + (1 : Int32)) S3)))))))
set_option maxHeartbeats 4000000 in
set_option maxRecDepth 100000 in
theorem wlX5_carFor_64 {p : Program} {l : Launch} {e : Env} {s : State} {m : MethodId} {args : Array Value} {below : List Frame} {meth : Method} {c : Code} {D : va_G} {cA : Nat → ClassId} {q : Nat → Nat} {K : ty_S → Int32 → Prop} {R52 : Int32 → Int32 → Int32 → ty_S → Prop} (X : ty_X D cA p s m args meth c cX5_carFor 9 (some .int) wsX5_carFor RX5) (hR52 : ∀ (x2 : Int32) (x5 : Int32) (x6 : Int32) (S : ty_S) (H : Heap) (locs : List Loc) (ls : Array Slot), R52 x2 x5 x6 S → ty_Y D cA q ty_LM S s H locs → lv_has ls 9 [(0, .ref (q 0)), (2, .int x2), (5, .int x5), (6, .int x6)] → W p l e rX5_carFor s m args below meth c H locs 0 0 (ty_MI D cA q ty_LM K below args s) (F0 m 52 ls [])) : ∀ (n : Nat) (x2 : Int32) (x5 : Int32) (x6 : Int32) (x7 : Int32) (S : ty_S) (H : Heap) (locs : List Loc) (ls : Array Slot), lX5_carFor_64 K R52 n x2 x5 x6 x7 S → ty_Y D cA q ty_LM S s H locs → lv_has ls 9 [(0, .ref (q 0)), (2, .int x2), (5, .int x5), (6, .int x6), (7, .int x7)] → W p l e rX5_carFor s m args below meth c H locs 0 0 (ty_MI D cA q ty_LM K below args s) (F0 m 64 ls []) := by
  have hx := X.1.1
  have hb := X.1.2.1
  intro n
  induction n with
  | zero =>
    intro x2 x5 x6 x7 S H locs ls h
    exact False.elim h
  | succ n ih =>
    intro x2 x5 x6 x7 S H locs ls h Y hl
    unfold lX5_carFor_64 at h
    refine lv_iload hx hb dX5_carFor_64 (lv_at hl 4 rfl) ?_
    refine lv_aload_n hx hb dX5_carFor_66 rfl (lv_at hl 0 rfl) ?_
    refine tg_X5_trainSize X Y iX5_carFor_X5 kX5_carFor_2 dX5_carFor_67 ?_
    refine lv_iload hx hb dX5_carFor_70 (lv_at hl 3 rfl) ?_
    refine ty_iald (v := (S 41 x6.toNatClampNeg)) X Y 12 41 41 rfl h.1 rfl dX5_carFor_72 ?_
    have h := h.2
    refine lv_icmp_ge (tgt := 125) hx hb dX5_carFor_73 (by decide) (fun c9 => ?_) (fun c9 => ?_)
    · have h := ty_t h c9
      refine lv_iinc (v := (x6 + (1 : Int32))) (lv' := [(6, .int (x6 + (1 : Int32))), (0, .ref (q 0)), (2, .int x2), (5, .int x5), (7, .int x7)]) hx hb dX5_carFor_125 hl (k := 3) rfl rfl (by decide) rfl (fun ls hl => ?_)
      refine lv_goto (tgt := 52) hx hb dX5_carFor_128 (by decide) ?_
      exact hR52 _ _ _ _ _ _ _ h Y (lv_sub hl [1, 2, 3, 0] rfl)
    · have h := ty_f h c9
      refine lv_aload_n hx hb dX5_carFor_76 rfl (lv_at hl 0 rfl) ?_
      refine tg_X5_trainCar X Y iX5_carFor_X5 kX5_carFor_3 dX5_carFor_77 ?_
      refine lv_bipush (v := (40 : Int32)) hx hb dX5_carFor_80 (by decide) ?_
      refine lv_iload hx hb dX5_carFor_82 (lv_at hl 3 rfl) ?_
      refine lv_imul hx hb dX5_carFor_84 ?_
      refine lv_iload hx hb dX5_carFor_85 (lv_at hl 4 rfl) ?_
      refine lv_iadd hx hb dX5_carFor_87 ?_
      refine ty_iald (v := (S 42 (((40 : Int32) * x6) + x7).toNatClampNeg)) X Y 13 1640 42 rfl h.1 rfl dX5_carFor_88 ?_
      have h := h.2
      refine lv_istore (lv' := [(8, .int (S 42 (((40 : Int32) * x6) + x7).toNatClampNeg)), (0, .ref (q 0)), (2, .int x2), (5, .int x5), (6, .int x6), (7, .int x7)]) hx hb dX5_carFor_89 hl (by decide) rfl (fun ls hl => ?_)
      refine lv_iload hx hb dX5_carFor_91 (lv_at hl 0 rfl) ?_
      refine lv_aload_n hx hb dX5_carFor_93 rfl (lv_at hl 1 rfl) ?_
      refine tg_X5_emptied (v := (S 59 0)) X Y iX5_carFor_X5 kX5_carFor_0 rfl dX5_carFor_94 ?_
      refine lv_icmp_eq (tgt := 115) hx hb dX5_carFor_97 (by decide) (fun c9 => ?_) (fun c9 => ?_)
      · have h := ty_t h c9
        refine lv_iload hx hb dX5_carFor_115 (lv_at hl 3 rfl) ?_
        refine lv_istore (lv' := [(5, .int x5), (8, .int (S 42 (((40 : Int32) * x6) + x7).toNatClampNeg)), (0, .ref (q 0)), (2, .int x2), (6, .int x6), (7, .int x7)]) hx hb dX5_carFor_117 hl (by decide) rfl (fun ls hl => ?_)
        refine lv_iinc (v := (x7 + (1 : Int32))) (lv' := [(7, .int (x7 + (1 : Int32))), (5, .int x5), (8, .int (S 42 (((40 : Int32) * x6) + x7).toNatClampNeg)), (0, .ref (q 0)), (2, .int x2), (6, .int x6)]) hx hb dX5_carFor_119 hl (k := 5) rfl rfl (by decide) rfl (fun ls hl => ?_)
        refine lv_goto (tgt := 64) hx hb dX5_carFor_122 (by decide) ?_
        exact ih _ _ _ _ _ _ _ _ h Y (lv_sub hl [3, 4, 1, 5, 0] rfl)
      · have h := ty_f h c9
        refine lv_aload_n hx hb dX5_carFor_100 rfl (lv_at hl 1 rfl) ?_
        refine lv_iload hx hb dX5_carFor_101 (lv_at hl 0 rfl) ?_
        refine lv_iload_n hx hb dX5_carFor_103 rfl (lv_at hl 2 rfl) ?_
        refine ty_Vi (As := [.int (S 42 (((40 : Int32) * x6) + x7).toNatClampNeg), .int x2]) (b := 0) (rest := []) X Y (cX5_hasRoom_C l D cA q S (S 42 (((40 : Int32) * x6) + x7).toNatClampNeg) x2 _ h) rfl rfl (fun hts => cwV 2 hts gX5_carFor_X5_hasRoom rfl rfl rfl (by decide +kernel) ⟨Nat.le_of_ble_eq_true rfl, Nat.le_of_ble_eq_true rfl⟩) rfl hl.1 (Nat.le_of_ble_eq_true rfl) dX5_carFor_104 ⟨Nat.zero_le _, Nat.zero_le _⟩ (fun r3 S3 H locs h Y => ?_)
        refine lv_if_eq (tgt := 115) hx hb dX5_carFor_107 (by decide) (fun c9 => ?_) (fun c9 => ?_)
        · have h := ty_t h c9
          refine lv_iload hx hb dX5_carFor_115 (lv_at hl 3 rfl) ?_
          refine lv_istore (lv' := [(5, .int x5), (8, .int (S 42 (((40 : Int32) * x6) + x7).toNatClampNeg)), (0, .ref (q 0)), (2, .int x2), (6, .int x6), (7, .int x7)]) hx hb dX5_carFor_117 hl (by decide) rfl (fun ls hl => ?_)
          refine lv_iinc (v := (x7 + (1 : Int32))) (lv' := [(7, .int (x7 + (1 : Int32))), (5, .int x5), (8, .int (S 42 (((40 : Int32) * x6) + x7).toNatClampNeg)), (0, .ref (q 0)), (2, .int x2), (6, .int x6)]) hx hb dX5_carFor_119 hl (k := 5) rfl rfl (by decide) rfl (fun ls hl => ?_)
          refine lv_goto (tgt := 64) hx hb dX5_carFor_122 (by decide) ?_
          exact ih _ _ _ _ _ _ _ _ h Y (lv_sub hl [3, 4, 1, 5, 0] rfl)
        · have h := ty_f h c9
          refine lv_iload hx hb dX5_carFor_110 (lv_at hl 0 rfl) ?_
          refine lv_goto (tgt := 117) hx hb dX5_carFor_112 (by decide) ?_
          refine lv_istore (lv' := [(5, .int (S 42 (((40 : Int32) * x6) + x7).toNatClampNeg)), (8, .int (S 42 (((40 : Int32) * x6) + x7).toNatClampNeg)), (0, .ref (q 0)), (2, .int x2), (6, .int x6), (7, .int x7)]) hx hb dX5_carFor_117 hl (by decide) rfl (fun ls hl => ?_)
          refine lv_iinc (v := (x7 + (1 : Int32))) (lv' := [(7, .int (x7 + (1 : Int32))), (5, .int (S 42 (((40 : Int32) * x6) + x7).toNatClampNeg)), (8, .int (S 42 (((40 : Int32) * x6) + x7).toNatClampNeg)), (0, .ref (q 0)), (2, .int x2), (6, .int x6)]) hx hb dX5_carFor_119 hl (k := 5) rfl rfl (by decide) rfl (fun ls hl => ?_)
          refine lv_goto (tgt := 64) hx hb dX5_carFor_122 (by decide) ?_
          exact ih _ _ _ _ _ _ _ _ h Y (lv_sub hl [3, 4, 1, 5, 0] rfl)
def lX5_carFor_52 (K : ty_S → Int32 → Prop)  : Nat → Int32 → Int32 → Int32 → ty_S → Prop
  | 0, _, _, _, _ => False
  | n + 1, x2, x5, x6, S => (if (S 50 0) ≤ x6 then K S x5 else ∃ n9, lX5_carFor_64 K (fun a0 a1 a2 S9 => lX5_carFor_52 K  n a0 a1 a2 S9) n9 x2 x5 x6 (0 : Int32) S)
set_option maxHeartbeats 4000000 in
set_option maxRecDepth 100000 in
theorem wlX5_carFor_52 {p : Program} {l : Launch} {e : Env} {s : State} {m : MethodId} {args : Array Value} {below : List Frame} {meth : Method} {c : Code} {D : va_G} {cA : Nat → ClassId} {q : Nat → Nat} {K : ty_S → Int32 → Prop}  (X : ty_X D cA p s m args meth c cX5_carFor 9 (some .int) wsX5_carFor RX5)  : ∀ (n : Nat) (x2 : Int32) (x5 : Int32) (x6 : Int32) (S : ty_S) (H : Heap) (locs : List Loc) (ls : Array Slot), lX5_carFor_52 K  n x2 x5 x6 S → ty_Y D cA q ty_LM S s H locs → lv_has ls 9 [(0, .ref (q 0)), (2, .int x2), (5, .int x5), (6, .int x6)] → W p l e rX5_carFor s m args below meth c H locs 0 0 (ty_MI D cA q ty_LM K below args s) (F0 m 52 ls []) := by
  have hx := X.1.1
  have hb := X.1.2.1
  intro n
  induction n with
  | zero =>
    intro x2 x5 x6 S H locs ls h
    exact False.elim h
  | succ n ih =>
    intro x2 x5 x6 S H locs ls h Y hl
    unfold lX5_carFor_52 at h
    refine lv_iload hx hb dX5_carFor_52 (lv_at hl 3 rfl) ?_
    refine lv_aload_n hx hb dX5_carFor_54 rfl (lv_at hl 0 rfl) ?_
    refine tg_X5_trains (v := (S 50 0)) X Y iX5_carFor_X5 kX5_carFor_1 rfl dX5_carFor_55 ?_
    refine lv_icmp_ge (tgt := 131) hx hb dX5_carFor_58 (by decide) (fun c9 => ?_) (fun c9 => ?_)
    · have h := ty_t h c9
      refine lv_iload hx hb dX5_carFor_131 (lv_at hl 2 rfl) ?_
      exact ty_iret X Y h dX5_carFor_133
    · have h := ty_f h c9
      refine lv_iconst (v := (0 : Int32)) hx hb dX5_carFor_61 (by decide) ?_
      refine lv_istore (lv' := [(7, .int (0 : Int32)), (0, .ref (q 0)), (2, .int x2), (5, .int x5), (6, .int x6)]) hx hb dX5_carFor_62 hl (by decide) rfl (fun ls hl => ?_)
      obtain ⟨n9, h⟩ := h
      exact wlX5_carFor_64 X ih n9 _ _ _ _ _ _ _ _ h Y (lv_sub hl [1, 2, 3, 4, 0] rfl)
def jX5_carFor_25 (K : ty_S → Int32 → Prop)  (x1 : Int32) (x2 : Int32) (S : ty_S) : Prop :=
  (eX5_freeCar S  (fun S2 r2 => (if r2 < (0 : Int32) then ∃ n9, lX5_carFor_52 K  n9 x2 (-1 : Int32) (0 : Int32) S2 else (eX5_couple S2 x1 r2 (fun S4 => K S4 r2)))))
set_option maxHeartbeats 4000000 in
set_option maxRecDepth 100000 in
theorem wjX5_carFor_25 {p : Program} {l : Launch} {e : Env} {s : State} {m : MethodId} {args : Array Value} {below : List Frame} {meth : Method} {c : Code} {D : va_G} {cA : Nat → ClassId} {q : Nat → Nat} {K : ty_S → Int32 → Prop}  (X : ty_X D cA p s m args meth c cX5_carFor 9 (some .int) wsX5_carFor RX5)  (x1 : Int32) (x2 : Int32) (S : ty_S) (H : Heap) (locs : List Loc) (ls : Array Slot) (h : jX5_carFor_25 K  x1 x2 S) (Y : ty_Y D cA q ty_LM S s H locs) (hl : lv_has ls 9 [(0, .ref (q 0)), (1, .int x1), (2, .int x2)]) : W p l e rX5_carFor s m args below meth c H locs 0 0 (ty_MI D cA q ty_LM K below args s) (F0 m 25 ls []) := by
  have hx := X.1.1
  have hb := X.1.2.1
  unfold jX5_carFor_25 at h
  refine lv_aload_n hx hb dX5_carFor_25 rfl (lv_at hl 0 rfl) ?_
  refine ty_Vi (As := []) (b := 0) (rest := []) X Y (cX5_freeCar_C l D cA q S  _ h) rfl rfl (fun hts => cwV 0 hts gX5_carFor_X5_freeCar rfl rfl rfl (by decide +kernel) ⟨Nat.le_of_ble_eq_true rfl, Nat.le_of_ble_eq_true rfl⟩) rfl hl.1 (Nat.le_of_ble_eq_true rfl) dX5_carFor_26 ⟨Nat.zero_le _, Nat.zero_le _⟩ (fun r2 S2 H locs h Y => ?_)
  refine lv_istore (lv' := [(4, .int r2), (0, .ref (q 0)), (1, .int x1), (2, .int x2)]) hx hb dX5_carFor_29 hl (by decide) rfl (fun ls hl => ?_)
  refine lv_iload hx hb dX5_carFor_31 (lv_at hl 0 rfl) ?_
  refine lv_if_lt (tgt := 46) hx hb dX5_carFor_33 (by decide) (fun c9 => ?_) (fun c9 => ?_)
  · have h := ty_t h c9
    refine lv_iconst (v := (-1 : Int32)) hx hb dX5_carFor_46 (by decide) ?_
    refine lv_istore (lv' := [(5, .int (-1 : Int32)), (4, .int r2), (0, .ref (q 0)), (1, .int x1), (2, .int x2)]) hx hb dX5_carFor_47 hl (by decide) rfl (fun ls hl => ?_)
    refine lv_iconst (v := (0 : Int32)) hx hb dX5_carFor_49 (by decide) ?_
    refine lv_istore (lv' := [(6, .int (0 : Int32)), (5, .int (-1 : Int32)), (4, .int r2), (0, .ref (q 0)), (1, .int x1), (2, .int x2)]) hx hb dX5_carFor_50 hl (by decide) rfl (fun ls hl => ?_)
    obtain ⟨n9, h⟩ := h
    exact wlX5_carFor_52 X  n9 _ _ _ _ _ _ _ h Y (lv_sub hl [3, 5, 1, 0] rfl)
  · have h := ty_f h c9
    refine lv_aload_n hx hb dX5_carFor_36 rfl (lv_at hl 1 rfl) ?_
    refine lv_iload_n hx hb dX5_carFor_37 rfl (lv_at hl 2 rfl) ?_
    refine lv_iload hx hb dX5_carFor_38 (lv_at hl 0 rfl) ?_
    refine ty_Vv (As := [.int x1, .int r2]) (b := 0) (rest := []) X Y (cX5_couple_C l D cA q S2 x1 r2 _ h) rfl rfl (fun hts => cwV 2 hts gX5_carFor_X5_couple rfl rfl rfl (by decide +kernel) ⟨Nat.le_of_ble_eq_true rfl, Nat.le_of_ble_eq_true rfl⟩) rfl hl.1 (Nat.le_of_ble_eq_true rfl) dX5_carFor_40 ⟨Nat.zero_le _, Nat.zero_le _⟩ (fun S4 H locs h Y => ?_)
    refine lv_iload hx hb dX5_carFor_43 (lv_at hl 0 rfl) ?_
    exact ty_iret X Y h dX5_carFor_45
def eX5_carFor (S : ty_S) (x1 : Int32) (x2 : Int32) (K : ty_S → Int32 → Prop) : Prop :=
  (eX5_lastCar S x1 (fun S1 r1 => (if r1 = (S1 59 0) then jX5_carFor_25 K  x1 x2 S1 else (eX5_hasRoom S1 r1 x2 (fun S5 r5 => (if r5 = (0 : Int32) then jX5_carFor_25 K  x1 x2 S5 else K S5 r1))))))
set_option maxHeartbeats 4000000 in
set_option maxRecDepth 100000 in
theorem cX5_carFor_C (l : Launch) (D : va_G) (cA : Nat → ClassId) (q : Nat → Nat) (S : ty_S) (x1 : Int32) (x2 : Int32) (K : ty_S → Int32 → Prop) (h : eX5_carFor S x1 x2 K) : ∀ sz, Met l yX5_carFor wsX5_carFor rX5_carFor (ty_Pc D cA q ty_LM S sz [.ref (q 0), .int x1, .int x2]) (ty_Qi D cA q ty_LM sz K) 0 0 (ty_A q ty_LM.length sz) := by
  refine ty_ofM (ret := (some .int)) (maxL := 9) (cc := cX5_carFor) (own := RX5) (Qc := fun sz => ty_Qi D cA q ty_LM sz K) (by decide +kernel) rfl (Nat.le_of_ble_eq_true rfl) rfl ?_
  intro p e s m args below meth c ls X hl Y
  have hx := X.1.1
  have hb := X.1.2.1
  have hl : lv_has ls 9 [(0, .ref (q 0)), (1, .int x1), (2, .int x2)] := hl
  unfold eX5_carFor at h
  refine lv_aload_n hx hb dX5_carFor_0 rfl (lv_at hl 0 rfl) ?_
  refine lv_iload_n hx hb dX5_carFor_1 rfl (lv_at hl 1 rfl) ?_
  refine ty_Vi (As := [.int x1]) (b := 0) (rest := []) X Y (cX5_lastCar_C l D cA q S x1 _ h) rfl rfl (fun hts => cwV 1 hts gX5_carFor_X5_lastCar rfl rfl rfl (by decide +kernel) ⟨Nat.le_of_ble_eq_true rfl, Nat.le_of_ble_eq_true rfl⟩) rfl hl.1 (Nat.le_of_ble_eq_true rfl) dX5_carFor_2 ⟨Nat.zero_le _, Nat.zero_le _⟩ (fun r1 S1 H locs h Y => ?_)
  refine lv_istore_n (lv' := [(3, .int r1), (0, .ref (q 0)), (1, .int x1), (2, .int x2)]) hx hb dX5_carFor_5 rfl hl (by decide) rfl (fun ls hl => ?_)
  refine lv_iload_n hx hb dX5_carFor_6 rfl (lv_at hl 0 rfl) ?_
  refine lv_aload_n hx hb dX5_carFor_7 rfl (lv_at hl 1 rfl) ?_
  refine tg_X5_emptied (v := (S1 59 0)) X Y iX5_carFor_X5 kX5_carFor_0 rfl dX5_carFor_8 ?_
  refine lv_icmp_eq (tgt := 25) hx hb dX5_carFor_11 (by decide) (fun c9 => ?_) (fun c9 => ?_)
  · have h := ty_t h c9
    exact wjX5_carFor_25 X  _ _ _ _ _ _ h Y (lv_sub hl [1, 2, 3] rfl)
  · have h := ty_f h c9
    refine lv_aload_n hx hb dX5_carFor_14 rfl (lv_at hl 1 rfl) ?_
    refine lv_iload_n hx hb dX5_carFor_15 rfl (lv_at hl 0 rfl) ?_
    refine lv_iload_n hx hb dX5_carFor_16 rfl (lv_at hl 3 rfl) ?_
    refine ty_Vi (As := [.int r1, .int x2]) (b := 0) (rest := []) X Y (cX5_hasRoom_C l D cA q S1 r1 x2 _ h) rfl rfl (fun hts => cwV 2 hts gX5_carFor_X5_hasRoom rfl rfl rfl (by decide +kernel) ⟨Nat.le_of_ble_eq_true rfl, Nat.le_of_ble_eq_true rfl⟩) rfl hl.1 (Nat.le_of_ble_eq_true rfl) dX5_carFor_17 ⟨Nat.zero_le _, Nat.zero_le _⟩ (fun r5 S5 H locs h Y => ?_)
    refine lv_if_eq (tgt := 25) hx hb dX5_carFor_20 (by decide) (fun c9 => ?_) (fun c9 => ?_)
    · have h := ty_t h c9
      exact wjX5_carFor_25 X  _ _ _ _ _ _ h Y (lv_sub hl [1, 2, 3] rfl)
    · have h := ty_f h c9
      refine lv_iload_n hx hb dX5_carFor_23 rfl (lv_at hl 0 rfl) ?_
      exact ty_iret X Y h dX5_carFor_24

abbrev rX5_place : Room := { frames := 0, cells := 0, slots := 0, locals := 0 }
theorem kX5_place_0 : Cond.fieldLink RX5 13 "TrainYardModel" "home" "[I" ∈ wsX5_place := ty_m 1 (by decide +kernel)
theorem kX5_place_1 : Cond.fieldLink RX5 16 "TrainYardModel" "offset" "[I" ∈ wsX5_place := ty_m 2 (by decide +kernel)
theorem iX5_place_X5 : ∀ w ∈ wsX50, w ∈ wsX5_place := ty_inp _ [3, 4, 5, 6, 7, 8, 9, 10, 11, 12, 13, 14, 15, 16, 17, 18, 19, 20, 21, 22, 23, 24, 25, 26, 27, 28, 29, 30, 31, 32, 33] (by decide +kernel)
def eX5_place (S : ty_S) (x1 : Int32) (K : ty_S → Int32 → Prop) : Prop :=
  (vp_in x1 640 ∧ (vp_in x1 640 ∧ K S (((32 : Int32) * (S 31 x1.toNatClampNeg)) + (S 32 x1.toNatClampNeg))))
set_option maxHeartbeats 4000000 in
set_option maxRecDepth 100000 in
theorem cX5_place_C (l : Launch) (D : va_G) (cA : Nat → ClassId) (q : Nat → Nat) (S : ty_S) (x1 : Int32) (K : ty_S → Int32 → Prop) (h : eX5_place S x1 K) : ∀ sz, Met l yX5_place wsX5_place rX5_place (ty_Pc D cA q ty_LM S sz [.ref (q 0), .int x1]) (ty_Qi D cA q ty_LM sz K) 0 0 (ty_A q ty_LM.length sz) := by
  refine ty_ofM (ret := (some .int)) (maxL := 2) (cc := cX5_place) (own := RX5) (Qc := fun sz => ty_Qi D cA q ty_LM sz K) (by decide +kernel) rfl (Nat.le_of_ble_eq_true rfl) rfl ?_
  intro p e s m args below meth c ls X hl Y
  have hx := X.1.1
  have hb := X.1.2.1
  have hl : lv_has ls 2 [(0, .ref (q 0)), (1, .int x1)] := hl
  unfold eX5_place at h
  refine lv_bipush (v := (32 : Int32)) hx hb dX5_place_0 (by decide) ?_
  refine lv_aload_n hx hb dX5_place_2 rfl (lv_at hl 0 rfl) ?_
  refine tg_X5_home X Y iX5_place_X5 kX5_place_0 dX5_place_3 ?_
  refine lv_iload_n hx hb dX5_place_6 rfl (lv_at hl 1 rfl) ?_
  refine ty_iald (v := (S 31 x1.toNatClampNeg)) X Y 2 640 31 rfl h.1 rfl dX5_place_7 ?_
  have h := h.2
  refine lv_imul hx hb dX5_place_8 ?_
  refine lv_aload_n hx hb dX5_place_9 rfl (lv_at hl 0 rfl) ?_
  refine tg_X5_offset X Y iX5_place_X5 kX5_place_1 dX5_place_10 ?_
  refine lv_iload_n hx hb dX5_place_13 rfl (lv_at hl 1 rfl) ?_
  refine ty_iald (v := (S 32 x1.toNatClampNeg)) X Y 3 640 32 rfl h.1 rfl dX5_place_14 ?_
  have h := h.2
  refine lv_iadd hx hb dX5_place_15 ?_
  exact ty_iret X Y h dX5_place_16

abbrev rX5_referencePlace : Room := { frames := 1, cells := 0, slots := 0, locals := 21 }
def eX5_referencePlace (S : ty_S) (x1 : Int32) (x2 : Int32) (K : ty_S → Int32 → Prop) : Prop :=
  (eX5_place S x1 (fun S1 r1 => K S1 ((r1 + (2 : Int32)) + x2)))
set_option maxHeartbeats 4000000 in
set_option maxRecDepth 100000 in
theorem cX5_referencePlace_C (l : Launch) (D : va_G) (cA : Nat → ClassId) (q : Nat → Nat) (S : ty_S) (x1 : Int32) (x2 : Int32) (K : ty_S → Int32 → Prop) (h : eX5_referencePlace S x1 x2 K) : ∀ sz, Met l yX5_referencePlace wsX5_referencePlace rX5_referencePlace (ty_Pc D cA q ty_LM S sz [.ref (q 0), .int x1, .int x2]) (ty_Qi D cA q ty_LM sz K) 0 0 (ty_A q ty_LM.length sz) := by
  refine ty_ofM (ret := (some .int)) (maxL := 3) (cc := cX5_referencePlace) (own := RX5) (Qc := fun sz => ty_Qi D cA q ty_LM sz K) (by decide +kernel) rfl (Nat.le_of_ble_eq_true rfl) rfl ?_
  intro p e s m args below meth c ls X hl Y
  have hx := X.1.1
  have hb := X.1.2.1
  have hl : lv_has ls 3 [(0, .ref (q 0)), (1, .int x1), (2, .int x2)] := hl
  unfold eX5_referencePlace at h
  refine lv_aload_n hx hb dX5_referencePlace_0 rfl (lv_at hl 0 rfl) ?_
  refine lv_iload_n hx hb dX5_referencePlace_1 rfl (lv_at hl 1 rfl) ?_
  refine ty_Vi (As := [.int x1]) (b := 0) (rest := []) X Y (cX5_place_C l D cA q S x1 _ h) rfl rfl (fun hts => cwV 1 hts gX5_referencePlace_X5_place rfl rfl rfl (by decide +kernel) ⟨Nat.le_of_ble_eq_true rfl, Nat.le_of_ble_eq_true rfl⟩) rfl hl.1 (Nat.le_of_ble_eq_true rfl) dX5_referencePlace_2 ⟨Nat.zero_le _, Nat.zero_le _⟩ (fun r1 S1 H locs h Y => ?_)
  refine lv_iconst (v := (2 : Int32)) hx hb dX5_referencePlace_5 (by decide) ?_
  refine lv_iadd hx hb dX5_referencePlace_6 ?_
  refine lv_iload_n hx hb dX5_referencePlace_7 rfl (lv_at hl 2 rfl) ?_
  refine lv_iadd hx hb dX5_referencePlace_8 ?_
  exact ty_iret X Y h dX5_referencePlace_9

abbrev rX5_isInCar : Room := { frames := 0, cells := 0, slots := 0, locals := 0 }
theorem kX5_isInCar_0 : Cond.fieldLink RX5 7 "TrainYardModel" "label" "[I" ∈ wsX5_isInCar := ty_m 1 (by decide +kernel)
theorem kX5_isInCar_1 : Cond.fieldLink RX5 13 "TrainYardModel" "home" "[I" ∈ wsX5_isInCar := ty_m 2 (by decide +kernel)
theorem kX5_isInCar_2 : Cond.fieldLink RX5 56 "TrainYardModel" "emptied" "I" ∈ wsX5_isInCar := ty_m 3 (by decide +kernel)
theorem iX5_isInCar_X5 : ∀ w ∈ wsX50, w ∈ wsX5_isInCar := ty_inp _ [4, 5, 6, 7, 8, 9, 10, 11, 12, 13, 14, 15, 16, 17, 18, 19, 20, 21, 22, 23, 24, 25, 26, 27, 28, 29, 30, 31, 32, 33, 34] (by decide +kernel)
def eX5_isInCar (S : ty_S) (x1 : Int32) (K : ty_S → Int32 → Prop) : Prop :=
  (if x1 < (0 : Int32) then K S (0 : Int32) else (vp_in x1 640 ∧ (if (S 30 x1.toNatClampNeg) ≤ (0 : Int32) then K S (0 : Int32) else (vp_in x1 640 ∧ (if (S 31 x1.toNatClampNeg) = (S 59 0) then K S (1 : Int32) else K S (0 : Int32))))))
set_option maxHeartbeats 4000000 in
set_option maxRecDepth 100000 in
theorem cX5_isInCar_C (l : Launch) (D : va_G) (cA : Nat → ClassId) (q : Nat → Nat) (S : ty_S) (x1 : Int32) (K : ty_S → Int32 → Prop) (h : eX5_isInCar S x1 K) : ∀ sz, Met l yX5_isInCar wsX5_isInCar rX5_isInCar (ty_Pc D cA q ty_LM S sz [.ref (q 0), .int x1]) (ty_Qi D cA q ty_LM sz K) 0 0 (ty_A q ty_LM.length sz) := by
  refine ty_ofM (ret := (some .boolean)) (maxL := 2) (cc := cX5_isInCar) (own := RX5) (Qc := fun sz => ty_Qi D cA q ty_LM sz K) (by decide +kernel) rfl (Nat.le_of_ble_eq_true rfl) rfl ?_
  intro p e s m args below meth c ls X hl Y
  have hx := X.1.1
  have hb := X.1.2.1
  have hl : lv_has ls 2 [(0, .ref (q 0)), (1, .int x1)] := hl
  unfold eX5_isInCar at h
  refine lv_iload_n hx hb dX5_isInCar_0 rfl (lv_at hl 1 rfl) ?_
  refine lv_if_lt (tgt := 30) hx hb dX5_isInCar_1 (by decide) (fun c9 => ?_) (fun c9 => ?_)
  · have h := ty_t h c9
    refine lv_iconst (v := (0 : Int32)) hx hb dX5_isInCar_30 (by decide) ?_
    exact ty_zret X Y h rfl dX5_isInCar_31
  · have h := ty_f h c9
    refine lv_aload_n hx hb dX5_isInCar_4 rfl (lv_at hl 0 rfl) ?_
    refine tg_X5_label X Y iX5_isInCar_X5 kX5_isInCar_0 dX5_isInCar_5 ?_
    refine lv_iload_n hx hb dX5_isInCar_8 rfl (lv_at hl 1 rfl) ?_
    refine ty_iald (v := (S 30 x1.toNatClampNeg)) X Y 1 640 30 rfl h.1 rfl dX5_isInCar_9 ?_
    have h := h.2
    refine lv_if_le (tgt := 30) hx hb dX5_isInCar_10 (by decide) (fun c9 => ?_) (fun c9 => ?_)
    · have h := ty_t h c9
      refine lv_iconst (v := (0 : Int32)) hx hb dX5_isInCar_30 (by decide) ?_
      exact ty_zret X Y h rfl dX5_isInCar_31
    · have h := ty_f h c9
      refine lv_aload_n hx hb dX5_isInCar_13 rfl (lv_at hl 0 rfl) ?_
      refine tg_X5_home X Y iX5_isInCar_X5 kX5_isInCar_1 dX5_isInCar_14 ?_
      refine lv_iload_n hx hb dX5_isInCar_17 rfl (lv_at hl 1 rfl) ?_
      refine ty_iald (v := (S 31 x1.toNatClampNeg)) X Y 2 640 31 rfl h.1 rfl dX5_isInCar_18 ?_
      have h := h.2
      refine lv_aload_n hx hb dX5_isInCar_19 rfl (lv_at hl 0 rfl) ?_
      refine tg_X5_emptied (v := (S 59 0)) X Y iX5_isInCar_X5 kX5_isInCar_2 rfl dX5_isInCar_20 ?_
      refine lv_icmp_ne (tgt := 30) hx hb dX5_isInCar_23 (by decide) (fun c9 => ?_) (fun c9 => ?_)
      · have h := ty_f h c9
        refine lv_iconst (v := (0 : Int32)) hx hb dX5_isInCar_30 (by decide) ?_
        exact ty_zret X Y h rfl dX5_isInCar_31
      · have h := ty_t h c9
        refine lv_iconst (v := (1 : Int32)) hx hb dX5_isInCar_26 (by decide) ?_
        refine lv_goto (tgt := 31) hx hb dX5_isInCar_27 (by decide) ?_
        exact ty_zret X Y h rfl dX5_isInCar_31

abbrev rX5_move : Room := { frames := 3, cells := 0, slots := 0, locals := 72 }
theorem kX5_move_0 : Cond.fieldLink RX5 116 "TrainYardModel" "moved" "I" ∈ wsX5_move := ty_m 1 (by decide +kernel)
theorem kX5_move_1 : Cond.fieldLink RX5 119 "TrainYardModel" "movedWords" "I" ∈ wsX5_move := ty_m 2 (by decide +kernel)
theorem iX5_move_X5 : ∀ w ∈ wsX50, w ∈ wsX5_move := ty_inp _ [47, 48, 49, 50, 51, 52, 53, 54, 55, 56, 57, 58, 59, 60, 61, 62, 63, 64, 65, 66, 67, 68, 69, 70, 71, 72, 73, 74, 75, 76, 77] (by decide +kernel)
def eX5_move (S : ty_S) (x1 : Int32) (x2 : Int32) (K : ty_S → Prop) : Prop :=
  (eX5_wordsOf S x1 (fun S1 r1 => (eX5_carFor S1 x2 r1 (fun S2 r2 => (eX5_lay S2 x1 r2 (fun S3 => (eX5_wordsOf (ty_st S3 55 0 ((S3 55 0) + (1 : Int32))) x1 (fun S4 r4 => K (ty_st S4 56 0 ((S3 56 0) + r4))))))))))
set_option maxHeartbeats 4000000 in
set_option maxRecDepth 100000 in
theorem cX5_move_C (l : Launch) (D : va_G) (cA : Nat → ClassId) (q : Nat → Nat) (S : ty_S) (x1 : Int32) (x2 : Int32) (K : ty_S → Prop) (h : eX5_move S x1 x2 K) : ∀ sz, Met l yX5_move wsX5_move rX5_move (ty_Pc D cA q ty_LM S sz [.ref (q 0), .int x1, .int x2]) (ty_Qv D cA q ty_LM sz K) 0 0 (ty_A q ty_LM.length sz) := by
  refine ty_ofM (ret := none) (maxL := 4) (cc := cX5_move) (own := RX5) (Qc := fun sz => ty_Qv D cA q ty_LM sz K) (by decide +kernel) rfl (Nat.le_of_ble_eq_true rfl) rfl ?_
  intro p e s m args below meth c ls X hl Y
  have hx := X.1.1
  have hb := X.1.2.1
  have hl : lv_has ls 4 [(0, .ref (q 0)), (1, .int x1), (2, .int x2)] := hl
  unfold eX5_move at h
  refine lv_aload_n hx hb dX5_move_0 rfl (lv_at hl 0 rfl) ?_
  refine lv_iload_n hx hb dX5_move_1 rfl (lv_at hl 2 rfl) ?_
  refine lv_aload_n hx hb dX5_move_2 rfl (lv_at hl 0 rfl) ?_
  refine lv_iload_n hx hb dX5_move_3 rfl (lv_at hl 1 rfl) ?_
  refine ty_Vi (As := [.int x1]) (b := 0) (rest := [.int x2, .ref (q 0)]) X Y (cX5_wordsOf_C l D cA q S x1 _ h) rfl rfl (fun hts => cwV 1 hts gX5_move_X5_wordsOf rfl rfl rfl (by decide +kernel) ⟨Nat.le_of_ble_eq_true rfl, Nat.le_of_ble_eq_true rfl⟩) rfl hl.1 (Nat.le_of_ble_eq_true rfl) dX5_move_4 ⟨Nat.zero_le _, Nat.zero_le _⟩ (fun r1 S1 H locs h Y => ?_)
  refine ty_Vi (As := [.int x2, .int r1]) (b := 0) (rest := []) X Y (cX5_carFor_C l D cA q S1 x2 r1 _ h) rfl rfl (fun hts => cwV 2 hts gX5_move_X5_carFor rfl rfl rfl (by decide +kernel) ⟨Nat.le_of_ble_eq_true rfl, Nat.le_of_ble_eq_true rfl⟩) rfl hl.1 (Nat.le_of_ble_eq_true rfl) dX5_move_7 ⟨Nat.zero_le _, Nat.zero_le _⟩ (fun r2 S2 H locs h Y => ?_)
  refine lv_istore_n (lv' := [(3, .int r2), (0, .ref (q 0)), (1, .int x1), (2, .int x2)]) hx hb dX5_move_10 rfl hl (by decide) rfl (fun ls hl => ?_)
  refine lv_aload_n hx hb dX5_move_11 rfl (lv_at hl 1 rfl) ?_
  refine lv_iload_n hx hb dX5_move_12 rfl (lv_at hl 2 rfl) ?_
  refine lv_iload_n hx hb dX5_move_13 rfl (lv_at hl 0 rfl) ?_
  refine ty_Vv (As := [.int x1, .int r2]) (b := 0) (rest := []) X Y (cX5_lay_C l D cA q S2 x1 r2 _ h) rfl rfl (fun hts => cwV 2 hts gX5_move_X5_lay rfl rfl rfl (by decide +kernel) ⟨Nat.le_of_ble_eq_true rfl, Nat.le_of_ble_eq_true rfl⟩) rfl hl.1 (Nat.le_of_ble_eq_true rfl) dX5_move_14 ⟨Nat.zero_le _, Nat.zero_le _⟩ (fun S3 H locs h Y => ?_)
  refine lv_aload_n hx hb dX5_move_17 rfl (lv_at hl 1 rfl) ?_
  refine lv_dup hx hb dX5_move_18 rfl ?_
  refine tg_X5_moved (v := (S3 55 0)) X Y iX5_move_X5 kX5_move_0 rfl dX5_move_19 ?_
  refine lv_iconst (v := (1 : Int32)) hx hb dX5_move_22 (by decide) ?_
  refine lv_iadd hx hb dX5_move_23 ?_
  refine tp_X5_moved X Y iX5_move_X5 kX5_move_0 dX5_move_24 (fun H locs Y => ?_)
  refine lv_aload_n hx hb dX5_move_27 rfl (lv_at hl 1 rfl) ?_
  refine lv_dup hx hb dX5_move_28 rfl ?_
  refine tg_X5_movedWords (v := (S3 56 0)) X Y iX5_move_X5 kX5_move_1 rfl dX5_move_29 ?_
  refine lv_aload_n hx hb dX5_move_32 rfl (lv_at hl 1 rfl) ?_
  refine lv_iload_n hx hb dX5_move_33 rfl (lv_at hl 2 rfl) ?_
  refine ty_Vi (As := [.int x1]) (b := 0) (rest := [.int (S3 56 0), .ref (q 0)]) X Y (cX5_wordsOf_C l D cA q (ty_st S3 55 0 ((S3 55 0) + (1 : Int32))) x1 _ h) rfl rfl (fun hts => cwV 1 hts gX5_move_X5_wordsOf rfl rfl rfl (by decide +kernel) ⟨Nat.le_of_ble_eq_true rfl, Nat.le_of_ble_eq_true rfl⟩) rfl hl.1 (Nat.le_of_ble_eq_true rfl) dX5_move_34 ⟨Nat.zero_le _, Nat.zero_le _⟩ (fun r4 S4 H locs h Y => ?_)
  refine lv_iadd hx hb dX5_move_37 ?_
  refine tp_X5_movedWords X Y iX5_move_X5 kX5_move_1 dX5_move_38 (fun H locs Y => ?_)
  exact ty_vret X Y h dX5_move_41

abbrev rX5_moveAll : Room := { frames := 4, cells := 0, slots := 0, locals := 95 }
theorem kX5_moveAll_0 : Cond.fieldLink RX5 59 "TrainYardModel" "queue" "[I" ∈ wsX5_moveAll := ty_m 1 (by decide +kernel)
theorem kX5_moveAll_1 : Cond.fieldLink RX5 19 "TrainYardModel" "references" "[I" ∈ wsX5_moveAll := ty_m 2 (by decide +kernel)
theorem kX5_moveAll_2 : Cond.fieldLink RX5 25 "TrainYardModel" "to" "[I" ∈ wsX5_moveAll := ty_m 3 (by decide +kernel)
theorem kX5_moveAll_3 : Cond.fieldLink RX5 13 "TrainYardModel" "home" "[I" ∈ wsX5_moveAll := ty_m 4 (by decide +kernel)
theorem iX5_moveAll_X5 : ∀ w ∈ wsX50, w ∈ wsX5_moveAll := ty_inp _ [58, 59, 60, 61, 62, 63, 64, 65, 66, 67, 68, 69, 70, 71, 72, 73, 74, 75, 76, 77, 78, 79, 80, 81, 82, 83, 84, 85, 86, 87, 88] (by decide +kernel)
def lX5_moveAll_36 (K : ty_S → Prop) (R18 : Int32 → Int32 → ty_S → Prop) : Nat → Int32 → Int32 → Int32 → Int32 → ty_S → Prop
  | 0, _, _, _, _, _ => False
  | n + 1, x3, x4, x5, x6, S => (vp_in x5 640 ∧ (if (S 33 x5.toNatClampNeg) ≤ x6 then R18 x3 (x4 + (1 : Int32)) S else (vp_in (((12 : Int32) * x5) + x6) 7680 ∧ (eX5_isInCar S (S 35 (((12 : Int32) * x5) + x6).toNatClampNeg) (fun S2 r2 => (if r2 = (0 : Int32) then lX5_moveAll_36 K R18 n x3 x4 x5 (x6 + (1 : Int32)) S2 else (vp_in x5 640 ∧ (eX5_trainOf S2 (S2 31 x5.toNatClampNeg) (fun S3 r3 => (eX5_move S3 (S 35 (((12 : Int32) * x5) + x6).toNatClampNeg) r3 (fun S4 => (vp_in x3 640 ∧ lX5_moveAll_36 K R18 n (x3 + (1 : Int32)) x4 x5 (x6 + (1 : Int32)) (ty_st S4 44 x3.toNatClampNeg (S 35 (((12 : Int32) * x5) + x6).toNatClampNeg))))))))))))))
set_option maxHeartbeats 4000000 in
set_option maxRecDepth 100000 in
theorem wlX5_moveAll_36 {p : Program} {l : Launch} {e : Env} {s : State} {m : MethodId} {args : Array Value} {below : List Frame} {meth : Method} {c : Code} {D : va_G} {cA : Nat → ClassId} {q : Nat → Nat} {K : ty_S → Prop} {R18 : Int32 → Int32 → ty_S → Prop} (X : ty_X D cA p s m args meth c cX5_moveAll 8 none wsX5_moveAll RX5) (hR18 : ∀ (x3 : Int32) (x4 : Int32) (S : ty_S) (H : Heap) (locs : List Loc) (ls : Array Slot), R18 x3 x4 S → ty_Y D cA q ty_LM S s H locs → lv_has ls 8 [(0, .ref (q 0)), (3, .int x3), (4, .int x4)] → W p l e rX5_moveAll s m args below meth c H locs 0 0 (ty_MV D cA q ty_LM K below args s) (F0 m 18 ls [])) : ∀ (n : Nat) (x3 : Int32) (x4 : Int32) (x5 : Int32) (x6 : Int32) (S : ty_S) (H : Heap) (locs : List Loc) (ls : Array Slot), lX5_moveAll_36 K R18 n x3 x4 x5 x6 S → ty_Y D cA q ty_LM S s H locs → lv_has ls 8 [(0, .ref (q 0)), (3, .int x3), (4, .int x4), (5, .int x5), (6, .int x6)] → W p l e rX5_moveAll s m args below meth c H locs 0 0 (ty_MV D cA q ty_LM K below args s) (F0 m 36 ls []) := by
  have hx := X.1.1
  have hb := X.1.2.1
  intro n
  induction n with
  | zero =>
    intro x3 x4 x5 x6 S H locs ls h
    exact False.elim h
  | succ n ih =>
    intro x3 x4 x5 x6 S H locs ls h Y hl
    unfold lX5_moveAll_36 at h
    refine lv_iload hx hb dX5_moveAll_36 (lv_at hl 4 rfl) ?_
    refine lv_aload_n hx hb dX5_moveAll_38 rfl (lv_at hl 0 rfl) ?_
    refine tg_X5_references X Y iX5_moveAll_X5 kX5_moveAll_1 dX5_moveAll_39 ?_
    refine lv_iload hx hb dX5_moveAll_42 (lv_at hl 3 rfl) ?_
    refine ty_iald (v := (S 33 x5.toNatClampNeg)) X Y 4 640 33 rfl h.1 rfl dX5_moveAll_44 ?_
    have h := h.2
    refine lv_icmp_ge (tgt := 106) hx hb dX5_moveAll_45 (by decide) (fun c9 => ?_) (fun c9 => ?_)
    · have h := ty_t h c9
      refine lv_iinc (v := (x4 + (1 : Int32))) (lv' := [(4, .int (x4 + (1 : Int32))), (0, .ref (q 0)), (3, .int x3), (5, .int x5), (6, .int x6)]) hx hb dX5_moveAll_106 hl (k := 2) rfl rfl (by decide) rfl (fun ls hl => ?_)
      refine lv_goto (tgt := 18) hx hb dX5_moveAll_109 (by decide) ?_
      exact hR18 _ _ _ _ _ _ h Y (lv_sub hl [1, 2, 0] rfl)
    · have h := ty_f h c9
      refine lv_aload_n hx hb dX5_moveAll_48 rfl (lv_at hl 0 rfl) ?_
      refine tg_X5_to X Y iX5_moveAll_X5 kX5_moveAll_2 dX5_moveAll_49 ?_
      refine lv_bipush (v := (12 : Int32)) hx hb dX5_moveAll_52 (by decide) ?_
      refine lv_iload hx hb dX5_moveAll_54 (lv_at hl 3 rfl) ?_
      refine lv_imul hx hb dX5_moveAll_56 ?_
      refine lv_iload hx hb dX5_moveAll_57 (lv_at hl 4 rfl) ?_
      refine lv_iadd hx hb dX5_moveAll_59 ?_
      refine ty_iald (v := (S 35 (((12 : Int32) * x5) + x6).toNatClampNeg)) X Y 6 7680 35 rfl h.1 rfl dX5_moveAll_60 ?_
      have h := h.2
      refine lv_istore (lv' := [(7, .int (S 35 (((12 : Int32) * x5) + x6).toNatClampNeg)), (0, .ref (q 0)), (3, .int x3), (4, .int x4), (5, .int x5), (6, .int x6)]) hx hb dX5_moveAll_61 hl (by decide) rfl (fun ls hl => ?_)
      refine lv_aload_n hx hb dX5_moveAll_63 rfl (lv_at hl 1 rfl) ?_
      refine lv_iload hx hb dX5_moveAll_64 (lv_at hl 0 rfl) ?_
      refine ty_Vi (As := [.int (S 35 (((12 : Int32) * x5) + x6).toNatClampNeg)]) (b := 0) (rest := []) X Y (cX5_isInCar_C l D cA q S (S 35 (((12 : Int32) * x5) + x6).toNatClampNeg) _ h) rfl rfl (fun hts => cwV 1 hts gX5_moveAll_X5_isInCar rfl rfl rfl (by decide +kernel) ⟨Nat.le_of_ble_eq_true rfl, Nat.le_of_ble_eq_true rfl⟩) rfl hl.1 (Nat.le_of_ble_eq_true rfl) dX5_moveAll_66 ⟨Nat.zero_le _, Nat.zero_le _⟩ (fun r2 S2 H locs h Y => ?_)
      refine lv_if_eq (tgt := 100) hx hb dX5_moveAll_69 (by decide) (fun c9 => ?_) (fun c9 => ?_)
      · have h := ty_t h c9
        refine lv_iinc (v := (x6 + (1 : Int32))) (lv' := [(6, .int (x6 + (1 : Int32))), (7, .int (S 35 (((12 : Int32) * x5) + x6).toNatClampNeg)), (0, .ref (q 0)), (3, .int x3), (4, .int x4), (5, .int x5)]) hx hb dX5_moveAll_100 hl (k := 5) rfl rfl (by decide) rfl (fun ls hl => ?_)
        refine lv_goto (tgt := 36) hx hb dX5_moveAll_103 (by decide) ?_
        exact ih _ _ _ _ _ _ _ _ h Y (lv_sub hl [2, 3, 4, 5, 0] rfl)
      · have h := ty_f h c9
        refine lv_aload_n hx hb dX5_moveAll_72 rfl (lv_at hl 1 rfl) ?_
        refine lv_iload hx hb dX5_moveAll_73 (lv_at hl 0 rfl) ?_
        refine lv_aload_n hx hb dX5_moveAll_75 rfl (lv_at hl 1 rfl) ?_
        refine lv_aload_n hx hb dX5_moveAll_76 rfl (lv_at hl 1 rfl) ?_
        refine tg_X5_home X Y iX5_moveAll_X5 kX5_moveAll_3 dX5_moveAll_77 ?_
        refine lv_iload hx hb dX5_moveAll_80 (lv_at hl 4 rfl) ?_
        refine ty_iald (v := (S2 31 x5.toNatClampNeg)) X Y 2 640 31 rfl h.1 rfl dX5_moveAll_82 ?_
        have h := h.2
        refine ty_Vi (As := [.int (S2 31 x5.toNatClampNeg)]) (b := 0) (rest := [.int (S 35 (((12 : Int32) * x5) + x6).toNatClampNeg), .ref (q 0)]) X Y (cX5_trainOf_C l D cA q S2 (S2 31 x5.toNatClampNeg) _ h) rfl rfl (fun hts => cwV 1 hts gX5_moveAll_X5_trainOf rfl rfl rfl (by decide +kernel) ⟨Nat.le_of_ble_eq_true rfl, Nat.le_of_ble_eq_true rfl⟩) rfl hl.1 (Nat.le_of_ble_eq_true rfl) dX5_moveAll_83 ⟨Nat.zero_le _, Nat.zero_le _⟩ (fun r3 S3 H locs h Y => ?_)
        refine ty_Vv (As := [.int (S 35 (((12 : Int32) * x5) + x6).toNatClampNeg), .int r3]) (b := 0) (rest := []) X Y (cX5_move_C l D cA q S3 (S 35 (((12 : Int32) * x5) + x6).toNatClampNeg) r3 _ h) rfl rfl (fun hts => cwV 2 hts gX5_moveAll_X5_move rfl rfl rfl (by decide +kernel) ⟨Nat.le_of_ble_eq_true rfl, Nat.le_of_ble_eq_true rfl⟩) rfl hl.1 (Nat.le_of_ble_eq_true rfl) dX5_moveAll_86 ⟨Nat.zero_le _, Nat.zero_le _⟩ (fun S4 H locs h Y => ?_)
        refine lv_aload_n hx hb dX5_moveAll_89 rfl (lv_at hl 1 rfl) ?_
        refine tg_X5_queue X Y iX5_moveAll_X5 kX5_moveAll_0 dX5_moveAll_90 ?_
        refine lv_iload_n hx hb dX5_moveAll_93 rfl (lv_at hl 2 rfl) ?_
        refine lv_iload hx hb dX5_moveAll_94 (lv_at hl 0 rfl) ?_
        refine ty_iast X Y 15 640 44 rfl (by decide) h.1 dX5_moveAll_96 (fun H locs Y => ?_)
        have h := h.2
        refine lv_iinc (v := (x3 + (1 : Int32))) (lv' := [(3, .int (x3 + (1 : Int32))), (7, .int (S 35 (((12 : Int32) * x5) + x6).toNatClampNeg)), (0, .ref (q 0)), (4, .int x4), (5, .int x5), (6, .int x6)]) hx hb dX5_moveAll_97 hl (k := 2) rfl rfl (by decide) rfl (fun ls hl => ?_)
        refine lv_iinc (v := (x6 + (1 : Int32))) (lv' := [(6, .int (x6 + (1 : Int32))), (3, .int (x3 + (1 : Int32))), (7, .int (S 35 (((12 : Int32) * x5) + x6).toNatClampNeg)), (0, .ref (q 0)), (4, .int x4), (5, .int x5)]) hx hb dX5_moveAll_100 hl (k := 5) rfl rfl (by decide) rfl (fun ls hl => ?_)
        refine lv_goto (tgt := 36) hx hb dX5_moveAll_103 (by decide) ?_
        exact ih _ _ _ _ _ _ _ _ h Y (lv_sub hl [3, 1, 4, 5, 0] rfl)
def lX5_moveAll_18 (K : ty_S → Prop)  : Nat → Int32 → Int32 → ty_S → Prop
  | 0, _, _, _ => False
  | n + 1, x3, x4, S => (if x3 ≤ x4 then K S else (vp_in x4 640 ∧ ∃ n9, lX5_moveAll_36 K (fun a0 a1 S9 => lX5_moveAll_18 K  n a0 a1 S9) n9 x3 x4 (S 44 x4.toNatClampNeg) (0 : Int32) S))
set_option maxHeartbeats 4000000 in
set_option maxRecDepth 100000 in
theorem wlX5_moveAll_18 {p : Program} {l : Launch} {e : Env} {s : State} {m : MethodId} {args : Array Value} {below : List Frame} {meth : Method} {c : Code} {D : va_G} {cA : Nat → ClassId} {q : Nat → Nat} {K : ty_S → Prop}  (X : ty_X D cA p s m args meth c cX5_moveAll 8 none wsX5_moveAll RX5)  : ∀ (n : Nat) (x3 : Int32) (x4 : Int32) (S : ty_S) (H : Heap) (locs : List Loc) (ls : Array Slot), lX5_moveAll_18 K  n x3 x4 S → ty_Y D cA q ty_LM S s H locs → lv_has ls 8 [(0, .ref (q 0)), (3, .int x3), (4, .int x4)] → W p l e rX5_moveAll s m args below meth c H locs 0 0 (ty_MV D cA q ty_LM K below args s) (F0 m 18 ls []) := by
  have hx := X.1.1
  have hb := X.1.2.1
  intro n
  induction n with
  | zero =>
    intro x3 x4 S H locs ls h
    exact False.elim h
  | succ n ih =>
    intro x3 x4 S H locs ls h Y hl
    unfold lX5_moveAll_18 at h
    refine lv_iload hx hb dX5_moveAll_18 (lv_at hl 2 rfl) ?_
    refine lv_iload_n hx hb dX5_moveAll_20 rfl (lv_at hl 1 rfl) ?_
    refine lv_icmp_ge (tgt := 112) hx hb dX5_moveAll_21 (by decide) (fun c9 => ?_) (fun c9 => ?_)
    · have h := ty_t h c9
      exact ty_vret X Y h dX5_moveAll_112
    · have h := ty_f h c9
      refine lv_aload_n hx hb dX5_moveAll_24 rfl (lv_at hl 0 rfl) ?_
      refine tg_X5_queue X Y iX5_moveAll_X5 kX5_moveAll_0 dX5_moveAll_25 ?_
      refine lv_iload hx hb dX5_moveAll_28 (lv_at hl 2 rfl) ?_
      refine ty_iald (v := (S 44 x4.toNatClampNeg)) X Y 15 640 44 rfl h.1 rfl dX5_moveAll_30 ?_
      have h := h.2
      refine lv_istore (lv' := [(5, .int (S 44 x4.toNatClampNeg)), (0, .ref (q 0)), (3, .int x3), (4, .int x4)]) hx hb dX5_moveAll_31 hl (by decide) rfl (fun ls hl => ?_)
      refine lv_iconst (v := (0 : Int32)) hx hb dX5_moveAll_33 (by decide) ?_
      refine lv_istore (lv' := [(6, .int (0 : Int32)), (5, .int (S 44 x4.toNatClampNeg)), (0, .ref (q 0)), (3, .int x3), (4, .int x4)]) hx hb dX5_moveAll_34 hl (by decide) rfl (fun ls hl => ?_)
      obtain ⟨n9, h⟩ := h
      exact wlX5_moveAll_36 X ih n9 _ _ _ _ _ _ _ _ h Y (lv_sub hl [2, 3, 4, 1, 0] rfl)
def eX5_moveAll (S : ty_S) (x1 : Int32) (x2 : Int32) (K : ty_S → Prop) : Prop :=
  (vp_in (0 : Int32) 640 ∧ (eX5_move (ty_st S 44 (0 : Int32).toNatClampNeg x1) x1 x2 (fun S1 => ∃ n9, lX5_moveAll_18 K  n9 (1 : Int32) (0 : Int32) S1)))
set_option maxHeartbeats 4000000 in
set_option maxRecDepth 100000 in
theorem cX5_moveAll_C (l : Launch) (D : va_G) (cA : Nat → ClassId) (q : Nat → Nat) (S : ty_S) (x1 : Int32) (x2 : Int32) (K : ty_S → Prop) (h : eX5_moveAll S x1 x2 K) : ∀ sz, Met l yX5_moveAll wsX5_moveAll rX5_moveAll (ty_Pc D cA q ty_LM S sz [.ref (q 0), .int x1, .int x2]) (ty_Qv D cA q ty_LM sz K) 0 0 (ty_A q ty_LM.length sz) := by
  refine ty_ofM (ret := none) (maxL := 8) (cc := cX5_moveAll) (own := RX5) (Qc := fun sz => ty_Qv D cA q ty_LM sz K) (by decide +kernel) rfl (Nat.le_of_ble_eq_true rfl) rfl ?_
  intro p e s m args below meth c ls X hl Y
  have hx := X.1.1
  have hb := X.1.2.1
  have hl : lv_has ls 8 [(0, .ref (q 0)), (1, .int x1), (2, .int x2)] := hl
  unfold eX5_moveAll at h
  refine lv_iconst (v := (1 : Int32)) hx hb dX5_moveAll_0 (by decide) ?_
  refine lv_istore_n (lv' := [(3, .int (1 : Int32)), (0, .ref (q 0)), (1, .int x1), (2, .int x2)]) hx hb dX5_moveAll_1 rfl hl (by decide) rfl (fun ls hl => ?_)
  refine lv_aload_n hx hb dX5_moveAll_2 rfl (lv_at hl 1 rfl) ?_
  refine tg_X5_queue X Y iX5_moveAll_X5 kX5_moveAll_0 dX5_moveAll_3 ?_
  refine lv_iconst (v := (0 : Int32)) hx hb dX5_moveAll_6 (by decide) ?_
  refine lv_iload_n hx hb dX5_moveAll_7 rfl (lv_at hl 2 rfl) ?_
  refine ty_iast X Y 15 640 44 rfl (by decide) h.1 dX5_moveAll_8 (fun H locs Y => ?_)
  have h := h.2
  refine lv_aload_n hx hb dX5_moveAll_9 rfl (lv_at hl 1 rfl) ?_
  refine lv_iload_n hx hb dX5_moveAll_10 rfl (lv_at hl 2 rfl) ?_
  refine lv_iload_n hx hb dX5_moveAll_11 rfl (lv_at hl 3 rfl) ?_
  refine ty_Vv (As := [.int x1, .int x2]) (b := 0) (rest := []) X Y (cX5_move_C l D cA q (ty_st S 44 (0 : Int32).toNatClampNeg x1) x1 x2 _ h) rfl rfl (fun hts => cwV 2 hts gX5_moveAll_X5_move rfl rfl rfl (by decide +kernel) ⟨Nat.le_of_ble_eq_true rfl, Nat.le_of_ble_eq_true rfl⟩) rfl hl.1 (Nat.le_of_ble_eq_true rfl) dX5_moveAll_12 ⟨Nat.zero_le _, Nat.zero_le _⟩ (fun S1 H locs h Y => ?_)
  refine lv_iconst (v := (0 : Int32)) hx hb dX5_moveAll_15 (by decide) ?_
  refine lv_istore (lv' := [(4, .int (0 : Int32)), (3, .int (1 : Int32)), (0, .ref (q 0)), (1, .int x1), (2, .int x2)]) hx hb dX5_moveAll_16 hl (by decide) rfl (fun ls hl => ?_)
  obtain ⟨n9, h⟩ := h
  exact wlX5_moveAll_18 X  n9 _ _ _ _ _ _ h Y (lv_sub hl [2, 1, 0] rfl)

abbrev rX5_gather : Room := { frames := 1, cells := 0, slots := 0, locals := 23 }
theorem kX5_gather_0 : Cond.fieldLink RX5 129 "TrainYardModel" "froms" "I" ∈ wsX5_gather := ty_m 1 (by decide +kernel)
theorem kX5_gather_1 : Cond.fieldLink RX5 34 "TrainYardModel" "count" "[I" ∈ wsX5_gather := ty_m 2 (by decide +kernel)
theorem kX5_gather_2 : Cond.fieldLink RX5 56 "TrainYardModel" "emptied" "I" ∈ wsX5_gather := ty_m 3 (by decide +kernel)
theorem kX5_gather_3 : Cond.fieldLink RX5 37 "TrainYardModel" "has" "[I" ∈ wsX5_gather := ty_m 4 (by decide +kernel)
theorem kX5_gather_4 : Cond.fieldLink RX5 19 "TrainYardModel" "references" "[I" ∈ wsX5_gather := ty_m 5 (by decide +kernel)
theorem kX5_gather_5 : Cond.fieldLink RX5 25 "TrainYardModel" "to" "[I" ∈ wsX5_gather := ty_m 6 (by decide +kernel)
theorem kX5_gather_6 : Cond.fieldLink RX5 62 "TrainYardModel" "from" "[I" ∈ wsX5_gather := ty_m 7 (by decide +kernel)
theorem kX5_gather_7 : Cond.fieldLink RX5 65 "TrainYardModel" "fromWhich" "[I" ∈ wsX5_gather := ty_m 8 (by decide +kernel)
theorem kX5_gather_8 : Cond.fieldLink RX5 68 "TrainYardModel" "fromFirst" "[Z" ∈ wsX5_gather := ty_m 9 (by decide +kernel)
theorem iX5_gather_X5 : ∀ w ∈ wsX50, w ∈ wsX5_gather := ty_inp _ [24, 25, 26, 27, 28, 29, 30, 31, 32, 33, 34, 35, 36, 37, 38, 39, 40, 41, 42, 43, 44, 45, 46, 47, 48, 49, 50, 51, 52, 53, 54] (by decide +kernel)
def lX5_gather_59 (K : ty_S → Prop) (R7 : Int32 → ty_S → Prop) (R21 : Int32 → Int32 → Int32 → ty_S → Prop) : Nat → Int32 → Int32 → Int32 → Int32 → Int32 → ty_S → Prop
  | 0, _, _, _, _, _, _ => False
  | n + 1, x1, x2, x3, x4, x5, S => (vp_in x4 640 ∧ (if (S 33 x4.toNatClampNeg) ≤ x5 then R21 x1 x2 (x3 + (1 : Int32)) S else (vp_in (((12 : Int32) * x4) + x5) 7680 ∧ (eX5_isInCar S (S 35 (((12 : Int32) * x4) + x5).toNatClampNeg) (fun S2 r2 => (if r2 = (0 : Int32) then lX5_gather_59 K R7 R21 n x1 x2 x3 x4 (x5 + (1 : Int32)) S2 else (vp_in (S2 61 0) 1280 ∧ (vp_in (S2 61 0) 1280 ∧ (if x2 = (0 : Int32) then (vp_in (S2 61 0) 1280 ∧ lX5_gather_59 K R7 R21 n x1 x2 x3 x4 (x5 + (1 : Int32)) (ty_st (ty_st (ty_st (ty_st S2 45 (S2 61 0).toNatClampNeg x4) 46 (S2 61 0).toNatClampNeg x5) 47 (S2 61 0).toNatClampNeg (1 : Int32)) 61 0 ((S2 61 0) + (1 : Int32)))) else (vp_in (S2 61 0) 1280 ∧ lX5_gather_59 K R7 R21 n x1 x2 x3 x4 (x5 + (1 : Int32)) (ty_st (ty_st (ty_st (ty_st S2 45 (S2 61 0).toNatClampNeg x4) 46 (S2 61 0).toNatClampNeg x5) 47 (S2 61 0).toNatClampNeg (0 : Int32)) 61 0 ((S2 61 0) + (1 : Int32)))))))))))))
set_option maxHeartbeats 4000000 in
set_option maxRecDepth 100000 in
theorem wlX5_gather_59 {p : Program} {l : Launch} {e : Env} {s : State} {m : MethodId} {args : Array Value} {below : List Frame} {meth : Method} {c : Code} {D : va_G} {cA : Nat → ClassId} {q : Nat → Nat} {K : ty_S → Prop} {R7 : Int32 → ty_S → Prop} {R21 : Int32 → Int32 → Int32 → ty_S → Prop} (X : ty_X D cA p s m args meth c cX5_gather 6 none wsX5_gather RX5) (hR7 : ∀ (x1 : Int32) (S : ty_S) (H : Heap) (locs : List Loc) (ls : Array Slot), R7 x1 S → ty_Y D cA q ty_LM S s H locs → lv_has ls 6 [(0, .ref (q 0)), (1, .int x1)] → W p l e rX5_gather s m args below meth c H locs 0 0 (ty_MV D cA q ty_LM K below args s) (F0 m 7 ls [])) (hR21 : ∀ (x1 : Int32) (x2 : Int32) (x3 : Int32) (S : ty_S) (H : Heap) (locs : List Loc) (ls : Array Slot), R21 x1 x2 x3 S → ty_Y D cA q ty_LM S s H locs → lv_has ls 6 [(0, .ref (q 0)), (1, .int x1), (2, .int x2), (3, .int x3)] → W p l e rX5_gather s m args below meth c H locs 0 0 (ty_MV D cA q ty_LM K below args s) (F0 m 21 ls [])) : ∀ (n : Nat) (x1 : Int32) (x2 : Int32) (x3 : Int32) (x4 : Int32) (x5 : Int32) (S : ty_S) (H : Heap) (locs : List Loc) (ls : Array Slot), lX5_gather_59 K R7 R21 n x1 x2 x3 x4 x5 S → ty_Y D cA q ty_LM S s H locs → lv_has ls 6 [(0, .ref (q 0)), (1, .int x1), (2, .int x2), (3, .int x3), (4, .int x4), (5, .int x5)] → W p l e rX5_gather s m args below meth c H locs 0 0 (ty_MV D cA q ty_LM K below args s) (F0 m 59 ls []) := by
  have hx := X.1.1
  have hb := X.1.2.1
  intro n
  induction n with
  | zero =>
    intro x1 x2 x3 x4 x5 S H locs ls h
    exact False.elim h
  | succ n ih =>
    intro x1 x2 x3 x4 x5 S H locs ls h Y hl
    unfold lX5_gather_59 at h
    refine lv_iload hx hb dX5_gather_59 (lv_at hl 5 rfl) ?_
    refine lv_aload_n hx hb dX5_gather_61 rfl (lv_at hl 0 rfl) ?_
    refine tg_X5_references X Y iX5_gather_X5 kX5_gather_4 dX5_gather_62 ?_
    refine lv_iload hx hb dX5_gather_65 (lv_at hl 4 rfl) ?_
    refine ty_iald (v := (S 33 x4.toNatClampNeg)) X Y 4 640 33 rfl h.1 rfl dX5_gather_67 ?_
    have h := h.2
    refine lv_icmp_ge (tgt := 147) hx hb dX5_gather_68 (by decide) (fun c9 => ?_) (fun c9 => ?_)
    · have h := ty_t h c9
      refine lv_iinc (v := (x3 + (1 : Int32))) (lv' := [(3, .int (x3 + (1 : Int32))), (0, .ref (q 0)), (1, .int x1), (2, .int x2), (4, .int x4), (5, .int x5)]) hx hb dX5_gather_147 hl (k := 3) rfl rfl (by decide) rfl (fun ls hl => ?_)
      refine lv_goto (tgt := 21) hx hb dX5_gather_150 (by decide) ?_
      exact hR21 _ _ _ _ _ _ _ h Y (lv_sub hl [1, 2, 3, 0] rfl)
    · have h := ty_f h c9
      refine lv_aload_n hx hb dX5_gather_71 rfl (lv_at hl 0 rfl) ?_
      refine lv_aload_n hx hb dX5_gather_72 rfl (lv_at hl 0 rfl) ?_
      refine tg_X5_to X Y iX5_gather_X5 kX5_gather_5 dX5_gather_73 ?_
      refine lv_bipush (v := (12 : Int32)) hx hb dX5_gather_76 (by decide) ?_
      refine lv_iload hx hb dX5_gather_78 (lv_at hl 4 rfl) ?_
      refine lv_imul hx hb dX5_gather_80 ?_
      refine lv_iload hx hb dX5_gather_81 (lv_at hl 5 rfl) ?_
      refine lv_iadd hx hb dX5_gather_83 ?_
      refine ty_iald (v := (S 35 (((12 : Int32) * x4) + x5).toNatClampNeg)) X Y 6 7680 35 rfl h.1 rfl dX5_gather_84 ?_
      have h := h.2
      refine ty_Vi (As := [.int (S 35 (((12 : Int32) * x4) + x5).toNatClampNeg)]) (b := 0) (rest := []) X Y (cX5_isInCar_C l D cA q S (S 35 (((12 : Int32) * x4) + x5).toNatClampNeg) _ h) rfl rfl (fun hts => cwV 1 hts gX5_gather_X5_isInCar rfl rfl rfl (by decide +kernel) ⟨Nat.le_of_ble_eq_true rfl, Nat.le_of_ble_eq_true rfl⟩) rfl hl.1 (Nat.le_of_ble_eq_true rfl) dX5_gather_85 ⟨Nat.zero_le _, Nat.zero_le _⟩ (fun r2 S2 H locs h Y => ?_)
      refine lv_if_eq (tgt := 141) hx hb dX5_gather_88 (by decide) (fun c9 => ?_) (fun c9 => ?_)
      · have h := ty_t h c9
        refine lv_iinc (v := (x5 + (1 : Int32))) (lv' := [(5, .int (x5 + (1 : Int32))), (0, .ref (q 0)), (1, .int x1), (2, .int x2), (3, .int x3), (4, .int x4)]) hx hb dX5_gather_141 hl (k := 5) rfl rfl (by decide) rfl (fun ls hl => ?_)
        refine lv_goto (tgt := 59) hx hb dX5_gather_144 (by decide) ?_
        exact ih _ _ _ _ _ _ _ _ _ h Y (lv_sub hl [1, 2, 3, 4, 5, 0] rfl)
      · have h := ty_f h c9
        refine lv_aload_n hx hb dX5_gather_91 rfl (lv_at hl 0 rfl) ?_
        refine tg_X5_from X Y iX5_gather_X5 kX5_gather_6 dX5_gather_92 ?_
        refine lv_aload_n hx hb dX5_gather_95 rfl (lv_at hl 0 rfl) ?_
        refine tg_X5_froms (v := (S2 61 0)) X Y iX5_gather_X5 kX5_gather_0 rfl dX5_gather_96 ?_
        refine lv_iload hx hb dX5_gather_99 (lv_at hl 4 rfl) ?_
        refine ty_iast X Y 16 1280 45 rfl (by decide) h.1 dX5_gather_101 (fun H locs Y => ?_)
        have h := h.2
        refine lv_aload_n hx hb dX5_gather_102 rfl (lv_at hl 0 rfl) ?_
        refine tg_X5_fromWhich X Y iX5_gather_X5 kX5_gather_7 dX5_gather_103 ?_
        refine lv_aload_n hx hb dX5_gather_106 rfl (lv_at hl 0 rfl) ?_
        refine tg_X5_froms (v := (S2 61 0)) X Y iX5_gather_X5 kX5_gather_0 rfl dX5_gather_107 ?_
        refine lv_iload hx hb dX5_gather_110 (lv_at hl 5 rfl) ?_
        refine ty_iast X Y 17 1280 46 rfl (by decide) h.1 dX5_gather_112 (fun H locs Y => ?_)
        have h := h.2
        refine lv_aload_n hx hb dX5_gather_113 rfl (lv_at hl 0 rfl) ?_
        refine tg_X5_fromFirst X Y iX5_gather_X5 kX5_gather_8 dX5_gather_114 ?_
        refine lv_aload_n hx hb dX5_gather_117 rfl (lv_at hl 0 rfl) ?_
        refine tg_X5_froms (v := (S2 61 0)) X Y iX5_gather_X5 kX5_gather_0 rfl dX5_gather_118 ?_
        refine lv_iload_n hx hb dX5_gather_121 rfl (lv_at hl 2 rfl) ?_
        refine lv_if_ne (tgt := 129) hx hb dX5_gather_122 (by decide) (fun c9 => ?_) (fun c9 => ?_)
        · have h := ty_f h c9
          refine lv_iconst (v := (0 : Int32)) hx hb dX5_gather_129 (by decide) ?_
          refine ty_zast X Y 18 1280 47 rfl (by decide) h.1 rfl dX5_gather_130 (fun H locs Y => ?_)
          have h := h.2
          refine lv_aload_n hx hb dX5_gather_131 rfl (lv_at hl 0 rfl) ?_
          refine lv_dup hx hb dX5_gather_132 rfl ?_
          refine tg_X5_froms (v := (S2 61 0)) X Y iX5_gather_X5 kX5_gather_0 rfl dX5_gather_133 ?_
          refine lv_iconst (v := (1 : Int32)) hx hb dX5_gather_136 (by decide) ?_
          refine lv_iadd hx hb dX5_gather_137 ?_
          refine tp_X5_froms X Y iX5_gather_X5 kX5_gather_0 dX5_gather_138 (fun H locs Y => ?_)
          refine lv_iinc (v := (x5 + (1 : Int32))) (lv' := [(5, .int (x5 + (1 : Int32))), (0, .ref (q 0)), (1, .int x1), (2, .int x2), (3, .int x3), (4, .int x4)]) hx hb dX5_gather_141 hl (k := 5) rfl rfl (by decide) rfl (fun ls hl => ?_)
          refine lv_goto (tgt := 59) hx hb dX5_gather_144 (by decide) ?_
          exact ih _ _ _ _ _ _ _ _ _ h Y (lv_sub hl [1, 2, 3, 4, 5, 0] rfl)
        · have h := ty_t h c9
          refine lv_iconst (v := (1 : Int32)) hx hb dX5_gather_125 (by decide) ?_
          refine lv_goto (tgt := 130) hx hb dX5_gather_126 (by decide) ?_
          refine ty_zast X Y 18 1280 47 rfl (by decide) h.1 rfl dX5_gather_130 (fun H locs Y => ?_)
          have h := h.2
          refine lv_aload_n hx hb dX5_gather_131 rfl (lv_at hl 0 rfl) ?_
          refine lv_dup hx hb dX5_gather_132 rfl ?_
          refine tg_X5_froms (v := (S2 61 0)) X Y iX5_gather_X5 kX5_gather_0 rfl dX5_gather_133 ?_
          refine lv_iconst (v := (1 : Int32)) hx hb dX5_gather_136 (by decide) ?_
          refine lv_iadd hx hb dX5_gather_137 ?_
          refine tp_X5_froms X Y iX5_gather_X5 kX5_gather_0 dX5_gather_138 (fun H locs Y => ?_)
          refine lv_iinc (v := (x5 + (1 : Int32))) (lv' := [(5, .int (x5 + (1 : Int32))), (0, .ref (q 0)), (1, .int x1), (2, .int x2), (3, .int x3), (4, .int x4)]) hx hb dX5_gather_141 hl (k := 5) rfl rfl (by decide) rfl (fun ls hl => ?_)
          refine lv_goto (tgt := 59) hx hb dX5_gather_144 (by decide) ?_
          exact ih _ _ _ _ _ _ _ _ _ h Y (lv_sub hl [1, 2, 3, 4, 5, 0] rfl)
def lX5_gather_21 (K : ty_S → Prop) (R7 : Int32 → ty_S → Prop) : Nat → Int32 → Int32 → Int32 → ty_S → Prop
  | 0, _, _, _, _ => False
  | n + 1, x1, x2, x3, S => (vp_in x1 40 ∧ (if (S 38 x1.toNatClampNeg) ≤ x3 then R7 (x1 + (1 : Int32)) S else (if x2 < (0 : Int32) then R7 (x1 + (1 : Int32)) S else (if x1 = (S 59 0) then R7 (x1 + (1 : Int32)) S else (vp_in (((16 : Int32) * x1) + x3) 640 ∧ ∃ n9, lX5_gather_59 K R7 (fun a0 a1 a2 S9 => lX5_gather_21 K R7 n a0 a1 a2 S9) n9 x1 x2 x3 (S 39 (((16 : Int32) * x1) + x3).toNatClampNeg) (0 : Int32) S)))))
set_option maxHeartbeats 4000000 in
set_option maxRecDepth 100000 in
theorem wlX5_gather_21 {p : Program} {l : Launch} {e : Env} {s : State} {m : MethodId} {args : Array Value} {below : List Frame} {meth : Method} {c : Code} {D : va_G} {cA : Nat → ClassId} {q : Nat → Nat} {K : ty_S → Prop} {R7 : Int32 → ty_S → Prop} (X : ty_X D cA p s m args meth c cX5_gather 6 none wsX5_gather RX5) (hR7 : ∀ (x1 : Int32) (S : ty_S) (H : Heap) (locs : List Loc) (ls : Array Slot), R7 x1 S → ty_Y D cA q ty_LM S s H locs → lv_has ls 6 [(0, .ref (q 0)), (1, .int x1)] → W p l e rX5_gather s m args below meth c H locs 0 0 (ty_MV D cA q ty_LM K below args s) (F0 m 7 ls [])) : ∀ (n : Nat) (x1 : Int32) (x2 : Int32) (x3 : Int32) (S : ty_S) (H : Heap) (locs : List Loc) (ls : Array Slot), lX5_gather_21 K R7 n x1 x2 x3 S → ty_Y D cA q ty_LM S s H locs → lv_has ls 6 [(0, .ref (q 0)), (1, .int x1), (2, .int x2), (3, .int x3)] → W p l e rX5_gather s m args below meth c H locs 0 0 (ty_MV D cA q ty_LM K below args s) (F0 m 21 ls []) := by
  have hx := X.1.1
  have hb := X.1.2.1
  intro n
  induction n with
  | zero =>
    intro x1 x2 x3 S H locs ls h
    exact False.elim h
  | succ n ih =>
    intro x1 x2 x3 S H locs ls h Y hl
    unfold lX5_gather_21 at h
    refine lv_iload_n hx hb dX5_gather_21 rfl (lv_at hl 3 rfl) ?_
    refine lv_aload_n hx hb dX5_gather_22 rfl (lv_at hl 0 rfl) ?_
    refine tg_X5_count X Y iX5_gather_X5 kX5_gather_1 dX5_gather_23 ?_
    refine lv_iload_n hx hb dX5_gather_26 rfl (lv_at hl 1 rfl) ?_
    refine ty_iald (v := (S 38 x1.toNatClampNeg)) X Y 9 40 38 rfl h.1 rfl dX5_gather_27 ?_
    have h := h.2
    refine lv_icmp_ge (tgt := 153) hx hb dX5_gather_28 (by decide) (fun c9 => ?_) (fun c9 => ?_)
    · have h := ty_t h c9
      refine lv_iinc (v := (x1 + (1 : Int32))) (lv' := [(1, .int (x1 + (1 : Int32))), (0, .ref (q 0)), (2, .int x2), (3, .int x3)]) hx hb dX5_gather_153 hl (k := 1) rfl rfl (by decide) rfl (fun ls hl => ?_)
      refine lv_goto (tgt := 7) hx hb dX5_gather_156 (by decide) ?_
      exact hR7 _ _ _ _ _ h Y (lv_sub hl [1, 0] rfl)
    · have h := ty_f h c9
      refine lv_iload_n hx hb dX5_gather_31 rfl (lv_at hl 2 rfl) ?_
      refine lv_if_lt (tgt := 153) hx hb dX5_gather_32 (by decide) (fun c9 => ?_) (fun c9 => ?_)
      · have h := ty_t h c9
        refine lv_iinc (v := (x1 + (1 : Int32))) (lv' := [(1, .int (x1 + (1 : Int32))), (0, .ref (q 0)), (2, .int x2), (3, .int x3)]) hx hb dX5_gather_153 hl (k := 1) rfl rfl (by decide) rfl (fun ls hl => ?_)
        refine lv_goto (tgt := 7) hx hb dX5_gather_156 (by decide) ?_
        exact hR7 _ _ _ _ _ h Y (lv_sub hl [1, 0] rfl)
      · have h := ty_f h c9
        refine lv_iload_n hx hb dX5_gather_35 rfl (lv_at hl 1 rfl) ?_
        refine lv_aload_n hx hb dX5_gather_36 rfl (lv_at hl 0 rfl) ?_
        refine tg_X5_emptied (v := (S 59 0)) X Y iX5_gather_X5 kX5_gather_2 rfl dX5_gather_37 ?_
        refine lv_icmp_eq (tgt := 153) hx hb dX5_gather_40 (by decide) (fun c9 => ?_) (fun c9 => ?_)
        · have h := ty_t h c9
          refine lv_iinc (v := (x1 + (1 : Int32))) (lv' := [(1, .int (x1 + (1 : Int32))), (0, .ref (q 0)), (2, .int x2), (3, .int x3)]) hx hb dX5_gather_153 hl (k := 1) rfl rfl (by decide) rfl (fun ls hl => ?_)
          refine lv_goto (tgt := 7) hx hb dX5_gather_156 (by decide) ?_
          exact hR7 _ _ _ _ _ h Y (lv_sub hl [1, 0] rfl)
        · have h := ty_f h c9
          refine lv_aload_n hx hb dX5_gather_43 rfl (lv_at hl 0 rfl) ?_
          refine tg_X5_has X Y iX5_gather_X5 kX5_gather_3 dX5_gather_44 ?_
          refine lv_bipush (v := (16 : Int32)) hx hb dX5_gather_47 (by decide) ?_
          refine lv_iload_n hx hb dX5_gather_49 rfl (lv_at hl 1 rfl) ?_
          refine lv_imul hx hb dX5_gather_50 ?_
          refine lv_iload_n hx hb dX5_gather_51 rfl (lv_at hl 3 rfl) ?_
          refine lv_iadd hx hb dX5_gather_52 ?_
          refine ty_iald (v := (S 39 (((16 : Int32) * x1) + x3).toNatClampNeg)) X Y 10 640 39 rfl h.1 rfl dX5_gather_53 ?_
          have h := h.2
          refine lv_istore (lv' := [(4, .int (S 39 (((16 : Int32) * x1) + x3).toNatClampNeg)), (0, .ref (q 0)), (1, .int x1), (2, .int x2), (3, .int x3)]) hx hb dX5_gather_54 hl (by decide) rfl (fun ls hl => ?_)
          refine lv_iconst (v := (0 : Int32)) hx hb dX5_gather_56 (by decide) ?_
          refine lv_istore (lv' := [(5, .int (0 : Int32)), (4, .int (S 39 (((16 : Int32) * x1) + x3).toNatClampNeg)), (0, .ref (q 0)), (1, .int x1), (2, .int x2), (3, .int x3)]) hx hb dX5_gather_57 hl (by decide) rfl (fun ls hl => ?_)
          obtain ⟨n9, h⟩ := h
          exact wlX5_gather_59 X hR7 ih n9 _ _ _ _ _ _ _ _ _ h Y (lv_sub hl [2, 3, 4, 5, 1, 0] rfl)
def lX5_gather_7 (K : ty_S → Prop)  : Nat → Int32 → ty_S → Prop
  | 0, _, _ => False
  | n + 1, x1, S => (if (40 : Int32) ≤ x1 then K S else (eX5_trainOf S x1 (fun S1 r1 => ∃ n9, lX5_gather_21 K (fun a0 S9 => lX5_gather_7 K  n a0 S9) n9 x1 r1 (0 : Int32) S1)))
set_option maxHeartbeats 4000000 in
set_option maxRecDepth 100000 in
theorem wlX5_gather_7 {p : Program} {l : Launch} {e : Env} {s : State} {m : MethodId} {args : Array Value} {below : List Frame} {meth : Method} {c : Code} {D : va_G} {cA : Nat → ClassId} {q : Nat → Nat} {K : ty_S → Prop}  (X : ty_X D cA p s m args meth c cX5_gather 6 none wsX5_gather RX5)  : ∀ (n : Nat) (x1 : Int32) (S : ty_S) (H : Heap) (locs : List Loc) (ls : Array Slot), lX5_gather_7 K  n x1 S → ty_Y D cA q ty_LM S s H locs → lv_has ls 6 [(0, .ref (q 0)), (1, .int x1)] → W p l e rX5_gather s m args below meth c H locs 0 0 (ty_MV D cA q ty_LM K below args s) (F0 m 7 ls []) := by
  have hx := X.1.1
  have hb := X.1.2.1
  intro n
  induction n with
  | zero =>
    intro x1 S H locs ls h
    exact False.elim h
  | succ n ih =>
    intro x1 S H locs ls h Y hl
    unfold lX5_gather_7 at h
    refine lv_iload_n hx hb dX5_gather_7 rfl (lv_at hl 1 rfl) ?_
    refine lv_bipush (v := (40 : Int32)) hx hb dX5_gather_8 (by decide) ?_
    refine lv_icmp_ge (tgt := 159) hx hb dX5_gather_10 (by decide) (fun c9 => ?_) (fun c9 => ?_)
    · have h := ty_t h c9
      exact ty_vret X Y h dX5_gather_159
    · have h := ty_f h c9
      refine lv_aload_n hx hb dX5_gather_13 rfl (lv_at hl 0 rfl) ?_
      refine lv_iload_n hx hb dX5_gather_14 rfl (lv_at hl 1 rfl) ?_
      refine ty_Vi (As := [.int x1]) (b := 0) (rest := []) X Y (cX5_trainOf_C l D cA q S x1 _ h) rfl rfl (fun hts => cwV 1 hts gX5_gather_X5_trainOf rfl rfl rfl (by decide +kernel) ⟨Nat.le_of_ble_eq_true rfl, Nat.le_of_ble_eq_true rfl⟩) rfl hl.1 (Nat.le_of_ble_eq_true rfl) dX5_gather_15 ⟨Nat.zero_le _, Nat.zero_le _⟩ (fun r1 S1 H locs h Y => ?_)
      refine lv_istore_n (lv' := [(2, .int r1), (0, .ref (q 0)), (1, .int x1)]) hx hb dX5_gather_18 rfl hl (by decide) rfl (fun ls hl => ?_)
      refine lv_iconst (v := (0 : Int32)) hx hb dX5_gather_19 (by decide) ?_
      refine lv_istore_n (lv' := [(3, .int (0 : Int32)), (2, .int r1), (0, .ref (q 0)), (1, .int x1)]) hx hb dX5_gather_20 rfl hl (by decide) rfl (fun ls hl => ?_)
      obtain ⟨n9, h⟩ := h
      exact wlX5_gather_21 X ih n9 _ _ _ _ _ _ _ h Y (lv_sub hl [2, 3, 1, 0] rfl)
def eX5_gather (S : ty_S)  (K : ty_S → Prop) : Prop :=
  ∃ n9, lX5_gather_7 K  n9 (0 : Int32) (ty_st S 61 0 (0 : Int32))
set_option maxHeartbeats 4000000 in
set_option maxRecDepth 100000 in
theorem cX5_gather_C (l : Launch) (D : va_G) (cA : Nat → ClassId) (q : Nat → Nat) (S : ty_S)  (K : ty_S → Prop) (h : eX5_gather S  K) : ∀ sz, Met l yX5_gather wsX5_gather rX5_gather (ty_Pc D cA q ty_LM S sz [.ref (q 0)]) (ty_Qv D cA q ty_LM sz K) 0 0 (ty_A q ty_LM.length sz) := by
  refine ty_ofM (ret := none) (maxL := 6) (cc := cX5_gather) (own := RX5) (Qc := fun sz => ty_Qv D cA q ty_LM sz K) (by decide +kernel) rfl (Nat.le_of_ble_eq_true rfl) rfl ?_
  intro p e s m args below meth c ls X hl Y
  have hx := X.1.1
  have hb := X.1.2.1
  have hl : lv_has ls 6 [(0, .ref (q 0))] := hl
  unfold eX5_gather at h
  refine lv_aload_n hx hb dX5_gather_0 rfl (lv_at hl 0 rfl) ?_
  refine lv_iconst (v := (0 : Int32)) hx hb dX5_gather_1 (by decide) ?_
  refine tp_X5_froms X Y iX5_gather_X5 kX5_gather_0 dX5_gather_2 (fun H locs Y => ?_)
  refine lv_iconst (v := (0 : Int32)) hx hb dX5_gather_5 (by decide) ?_
  refine lv_istore_n (lv' := [(1, .int (0 : Int32)), (0, .ref (q 0))]) hx hb dX5_gather_6 rfl hl (by decide) rfl (fun ls hl => ?_)
  obtain ⟨n9, h⟩ := h
  exact wlX5_gather_7 X  n9 _ _ _ _ _ h Y (lv_sub hl [1, 0] rfl)

abbrev rX5_isWanted : Room := { frames := 1, cells := 0, slots := 0, locals := 23 }
theorem kX5_isWanted_0 : Cond.fieldLink RX5 7 "TrainYardModel" "label" "[I" ∈ wsX5_isWanted := ty_m 3 (by decide +kernel)
theorem kX5_isWanted_1 : Cond.fieldLink RX5 19 "TrainYardModel" "references" "[I" ∈ wsX5_isWanted := ty_m 4 (by decide +kernel)
theorem kX5_isWanted_2 : Cond.fieldLink RX5 25 "TrainYardModel" "to" "[I" ∈ wsX5_isWanted := ty_m 5 (by decide +kernel)
theorem kX5_isWanted_3 : Cond.fieldLink RX5 13 "TrainYardModel" "home" "[I" ∈ wsX5_isWanted := ty_m 2 (by decide +kernel)
theorem kX5_isWanted_4 : Cond.fieldLink RX5 49 "TrainYardModel" "register" "[I" ∈ wsX5_isWanted := ty_m 1 (by decide +kernel)
theorem iX5_isWanted_X5 : ∀ w ∈ wsX50, w ∈ wsX5_isWanted := ty_inp _ [14, 15, 16, 17, 18, 19, 20, 21, 22, 23, 24, 25, 26, 27, 28, 29, 30, 31, 32, 33, 34, 35, 36, 37, 38, 39, 40, 41, 42, 43, 44] (by decide +kernel)
def lX5_isWanted_82 (K : ty_S → Int32 → Prop) (R45 : Int32 → ty_S → Prop) : Nat → Int32 → Int32 → Int32 → ty_S → Prop
  | 0, _, _, _, _ => False
  | n + 1, x1, x2, x3, S => (if x2 = (0 : Int32) then R45 (x1 + (1 : Int32)) S else (vp_in x1 640 ∧ (if (S 33 x1.toNatClampNeg) ≤ x3 then R45 (x1 + (1 : Int32)) S else (vp_in (((12 : Int32) * x1) + x3) 7680 ∧ (if (S 35 (((12 : Int32) * x1) + x3).toNatClampNeg) < (0 : Int32) then lX5_isWanted_82 K R45 n x1 x2 (x3 + (1 : Int32)) S else (vp_in (S 35 (((12 : Int32) * x1) + x3).toNatClampNeg) 640 ∧ (eX5_trainOf S (S 31 (S 35 (((12 : Int32) * x1) + x3).toNatClampNeg).toNatClampNeg) (fun S1 r1 => (if r1 = (0 : Int32) then K S1 (1 : Int32) else lX5_isWanted_82 K R45 n x1 x2 (x3 + (1 : Int32)) S1)))))))))
set_option maxHeartbeats 4000000 in
set_option maxRecDepth 100000 in
theorem wlX5_isWanted_82 {p : Program} {l : Launch} {e : Env} {s : State} {m : MethodId} {args : Array Value} {below : List Frame} {meth : Method} {c : Code} {D : va_G} {cA : Nat → ClassId} {q : Nat → Nat} {K : ty_S → Int32 → Prop} {R45 : Int32 → ty_S → Prop} (X : ty_X D cA p s m args meth c cX5_isWanted 5 (some .boolean) wsX5_isWanted RX5) (hR45 : ∀ (x1 : Int32) (S : ty_S) (H : Heap) (locs : List Loc) (ls : Array Slot), R45 x1 S → ty_Y D cA q ty_LM S s H locs → lv_has ls 5 [(0, .ref (q 0)), (1, .int x1)] → W p l e rX5_isWanted s m args below meth c H locs 0 0 (ty_MI D cA q ty_LM K below args s) (F0 m 45 ls [])) : ∀ (n : Nat) (x1 : Int32) (x2 : Int32) (x3 : Int32) (S : ty_S) (H : Heap) (locs : List Loc) (ls : Array Slot), lX5_isWanted_82 K R45 n x1 x2 x3 S → ty_Y D cA q ty_LM S s H locs → lv_has ls 5 [(0, .ref (q 0)), (1, .int x1), (2, .int x2), (3, .int x3)] → W p l e rX5_isWanted s m args below meth c H locs 0 0 (ty_MI D cA q ty_LM K below args s) (F0 m 82 ls []) := by
  have hx := X.1.1
  have hb := X.1.2.1
  intro n
  induction n with
  | zero =>
    intro x1 x2 x3 S H locs ls h
    exact False.elim h
  | succ n ih =>
    intro x1 x2 x3 S H locs ls h Y hl
    unfold lX5_isWanted_82 at h
    refine lv_iload_n hx hb dX5_isWanted_82 rfl (lv_at hl 2 rfl) ?_
    refine lv_if_eq (tgt := 136) hx hb dX5_isWanted_83 (by decide) (fun c9 => ?_) (fun c9 => ?_)
    · have h := ty_t h c9
      refine lv_iinc (v := (x1 + (1 : Int32))) (lv' := [(1, .int (x1 + (1 : Int32))), (0, .ref (q 0)), (2, .int x2), (3, .int x3)]) hx hb dX5_isWanted_136 hl (k := 1) rfl rfl (by decide) rfl (fun ls hl => ?_)
      refine lv_goto (tgt := 45) hx hb dX5_isWanted_139 (by decide) ?_
      exact hR45 _ _ _ _ _ h Y (lv_sub hl [1, 0] rfl)
    · have h := ty_f h c9
      refine lv_iload_n hx hb dX5_isWanted_86 rfl (lv_at hl 3 rfl) ?_
      refine lv_aload_n hx hb dX5_isWanted_87 rfl (lv_at hl 0 rfl) ?_
      refine tg_X5_references X Y iX5_isWanted_X5 kX5_isWanted_1 dX5_isWanted_88 ?_
      refine lv_iload_n hx hb dX5_isWanted_91 rfl (lv_at hl 1 rfl) ?_
      refine ty_iald (v := (S 33 x1.toNatClampNeg)) X Y 4 640 33 rfl h.1 rfl dX5_isWanted_92 ?_
      have h := h.2
      refine lv_icmp_ge (tgt := 136) hx hb dX5_isWanted_93 (by decide) (fun c9 => ?_) (fun c9 => ?_)
      · have h := ty_t h c9
        refine lv_iinc (v := (x1 + (1 : Int32))) (lv' := [(1, .int (x1 + (1 : Int32))), (0, .ref (q 0)), (2, .int x2), (3, .int x3)]) hx hb dX5_isWanted_136 hl (k := 1) rfl rfl (by decide) rfl (fun ls hl => ?_)
        refine lv_goto (tgt := 45) hx hb dX5_isWanted_139 (by decide) ?_
        exact hR45 _ _ _ _ _ h Y (lv_sub hl [1, 0] rfl)
      · have h := ty_f h c9
        refine lv_aload_n hx hb dX5_isWanted_96 rfl (lv_at hl 0 rfl) ?_
        refine tg_X5_to X Y iX5_isWanted_X5 kX5_isWanted_2 dX5_isWanted_97 ?_
        refine lv_bipush (v := (12 : Int32)) hx hb dX5_isWanted_100 (by decide) ?_
        refine lv_iload_n hx hb dX5_isWanted_102 rfl (lv_at hl 1 rfl) ?_
        refine lv_imul hx hb dX5_isWanted_103 ?_
        refine lv_iload_n hx hb dX5_isWanted_104 rfl (lv_at hl 3 rfl) ?_
        refine lv_iadd hx hb dX5_isWanted_105 ?_
        refine ty_iald (v := (S 35 (((12 : Int32) * x1) + x3).toNatClampNeg)) X Y 6 7680 35 rfl h.1 rfl dX5_isWanted_106 ?_
        have h := h.2
        refine lv_istore (lv' := [(4, .int (S 35 (((12 : Int32) * x1) + x3).toNatClampNeg)), (0, .ref (q 0)), (1, .int x1), (2, .int x2), (3, .int x3)]) hx hb dX5_isWanted_107 hl (by decide) rfl (fun ls hl => ?_)
        refine lv_iload hx hb dX5_isWanted_109 (lv_at hl 0 rfl) ?_
        refine lv_if_lt (tgt := 130) hx hb dX5_isWanted_111 (by decide) (fun c9 => ?_) (fun c9 => ?_)
        · have h := ty_t h c9
          refine lv_iinc (v := (x3 + (1 : Int32))) (lv' := [(3, .int (x3 + (1 : Int32))), (4, .int (S 35 (((12 : Int32) * x1) + x3).toNatClampNeg)), (0, .ref (q 0)), (1, .int x1), (2, .int x2)]) hx hb dX5_isWanted_130 hl (k := 4) rfl rfl (by decide) rfl (fun ls hl => ?_)
          refine lv_goto (tgt := 82) hx hb dX5_isWanted_133 (by decide) ?_
          exact ih _ _ _ _ _ _ _ h Y (lv_sub hl [2, 3, 4, 0] rfl)
        · have h := ty_f h c9
          refine lv_aload_n hx hb dX5_isWanted_114 rfl (lv_at hl 1 rfl) ?_
          refine lv_aload_n hx hb dX5_isWanted_115 rfl (lv_at hl 1 rfl) ?_
          refine tg_X5_home X Y iX5_isWanted_X5 kX5_isWanted_3 dX5_isWanted_116 ?_
          refine lv_iload hx hb dX5_isWanted_119 (lv_at hl 0 rfl) ?_
          refine ty_iald (v := (S 31 (S 35 (((12 : Int32) * x1) + x3).toNatClampNeg).toNatClampNeg)) X Y 2 640 31 rfl h.1 rfl dX5_isWanted_121 ?_
          have h := h.2
          refine ty_Vi (As := [.int (S 31 (S 35 (((12 : Int32) * x1) + x3).toNatClampNeg).toNatClampNeg)]) (b := 0) (rest := []) X Y (cX5_trainOf_C l D cA q S (S 31 (S 35 (((12 : Int32) * x1) + x3).toNatClampNeg).toNatClampNeg) _ h) rfl rfl (fun hts => cwV 1 hts gX5_isWanted_X5_trainOf rfl rfl rfl (by decide +kernel) ⟨Nat.le_of_ble_eq_true rfl, Nat.le_of_ble_eq_true rfl⟩) rfl hl.1 (Nat.le_of_ble_eq_true rfl) dX5_isWanted_122 ⟨Nat.zero_le _, Nat.zero_le _⟩ (fun r1 S1 H locs h Y => ?_)
          refine lv_if_ne (tgt := 130) hx hb dX5_isWanted_125 (by decide) (fun c9 => ?_) (fun c9 => ?_)
          · have h := ty_f h c9
            refine lv_iinc (v := (x3 + (1 : Int32))) (lv' := [(3, .int (x3 + (1 : Int32))), (4, .int (S 35 (((12 : Int32) * x1) + x3).toNatClampNeg)), (0, .ref (q 0)), (1, .int x1), (2, .int x2)]) hx hb dX5_isWanted_130 hl (k := 4) rfl rfl (by decide) rfl (fun ls hl => ?_)
            refine lv_goto (tgt := 82) hx hb dX5_isWanted_133 (by decide) ?_
            exact ih _ _ _ _ _ _ _ h Y (lv_sub hl [2, 3, 4, 0] rfl)
          · have h := ty_t h c9
            refine lv_iconst (v := (1 : Int32)) hx hb dX5_isWanted_128 (by decide) ?_
            exact ty_zret X Y h rfl dX5_isWanted_129
def lX5_isWanted_45 (K : ty_S → Int32 → Prop)  : Nat → Int32 → ty_S → Prop
  | 0, _, _ => False
  | n + 1, x1, S => (if (640 : Int32) ≤ x1 then K S (0 : Int32) else (vp_in x1 640 ∧ (if (S 30 x1.toNatClampNeg) ≤ (0 : Int32) then ∃ n9, lX5_isWanted_82 K (fun a0 S9 => lX5_isWanted_45 K  n a0 S9) n9 x1 (0 : Int32) (0 : Int32) S else (vp_in x1 640 ∧ (eX5_trainOf S (S 31 x1.toNatClampNeg) (fun S2 r2 => (if r2 ≤ (0 : Int32) then ∃ n9, lX5_isWanted_82 K (fun a0 S9 => lX5_isWanted_45 K  n a0 S9) n9 x1 (0 : Int32) (0 : Int32) S2 else ∃ n9, lX5_isWanted_82 K (fun a0 S9 => lX5_isWanted_45 K  n a0 S9) n9 x1 (1 : Int32) (0 : Int32) S2)))))))
set_option maxHeartbeats 4000000 in
set_option maxRecDepth 100000 in
theorem wlX5_isWanted_45 {p : Program} {l : Launch} {e : Env} {s : State} {m : MethodId} {args : Array Value} {below : List Frame} {meth : Method} {c : Code} {D : va_G} {cA : Nat → ClassId} {q : Nat → Nat} {K : ty_S → Int32 → Prop}  (X : ty_X D cA p s m args meth c cX5_isWanted 5 (some .boolean) wsX5_isWanted RX5)  : ∀ (n : Nat) (x1 : Int32) (S : ty_S) (H : Heap) (locs : List Loc) (ls : Array Slot), lX5_isWanted_45 K  n x1 S → ty_Y D cA q ty_LM S s H locs → lv_has ls 5 [(0, .ref (q 0)), (1, .int x1)] → W p l e rX5_isWanted s m args below meth c H locs 0 0 (ty_MI D cA q ty_LM K below args s) (F0 m 45 ls []) := by
  have hx := X.1.1
  have hb := X.1.2.1
  intro n
  induction n with
  | zero =>
    intro x1 S H locs ls h
    exact False.elim h
  | succ n ih =>
    intro x1 S H locs ls h Y hl
    unfold lX5_isWanted_45 at h
    refine lv_iload_n hx hb dX5_isWanted_45 rfl (lv_at hl 1 rfl) ?_
    refine lv_sipush (v := (640 : Int32)) hx hb dX5_isWanted_46 (by decide) ?_
    refine lv_icmp_ge (tgt := 142) hx hb dX5_isWanted_49 (by decide) (fun c9 => ?_) (fun c9 => ?_)
    · have h := ty_t h c9
      refine lv_iconst (v := (0 : Int32)) hx hb dX5_isWanted_142 (by decide) ?_
      exact ty_zret X Y h rfl dX5_isWanted_143
    · have h := ty_f h c9
      refine lv_aload_n hx hb dX5_isWanted_52 rfl (lv_at hl 0 rfl) ?_
      refine tg_X5_label X Y iX5_isWanted_X5 kX5_isWanted_0 dX5_isWanted_53 ?_
      refine lv_iload_n hx hb dX5_isWanted_56 rfl (lv_at hl 1 rfl) ?_
      refine ty_iald (v := (S 30 x1.toNatClampNeg)) X Y 1 640 30 rfl h.1 rfl dX5_isWanted_57 ?_
      have h := h.2
      refine lv_if_le (tgt := 78) hx hb dX5_isWanted_58 (by decide) (fun c9 => ?_) (fun c9 => ?_)
      · have h := ty_t h c9
        refine lv_iconst (v := (0 : Int32)) hx hb dX5_isWanted_78 (by decide) ?_
        refine lv_istore_n (lv' := [(2, .int (0 : Int32)), (0, .ref (q 0)), (1, .int x1)]) hx hb dX5_isWanted_79 rfl hl (by decide) rfl (fun ls hl => ?_)
        refine lv_iconst (v := (0 : Int32)) hx hb dX5_isWanted_80 (by decide) ?_
        refine lv_istore_n (lv' := [(3, .int (0 : Int32)), (2, .int (0 : Int32)), (0, .ref (q 0)), (1, .int x1)]) hx hb dX5_isWanted_81 rfl hl (by decide) rfl (fun ls hl => ?_)
        obtain ⟨n9, h⟩ := h
        exact wlX5_isWanted_82 X ih n9 _ _ _ _ _ _ _ h Y (lv_sub hl [2, 3, 1, 0] rfl)
      · have h := ty_f h c9
        refine lv_aload_n hx hb dX5_isWanted_61 rfl (lv_at hl 0 rfl) ?_
        refine lv_aload_n hx hb dX5_isWanted_62 rfl (lv_at hl 0 rfl) ?_
        refine tg_X5_home X Y iX5_isWanted_X5 kX5_isWanted_3 dX5_isWanted_63 ?_
        refine lv_iload_n hx hb dX5_isWanted_66 rfl (lv_at hl 1 rfl) ?_
        refine ty_iald (v := (S 31 x1.toNatClampNeg)) X Y 2 640 31 rfl h.1 rfl dX5_isWanted_67 ?_
        have h := h.2
        refine ty_Vi (As := [.int (S 31 x1.toNatClampNeg)]) (b := 0) (rest := []) X Y (cX5_trainOf_C l D cA q S (S 31 x1.toNatClampNeg) _ h) rfl rfl (fun hts => cwV 1 hts gX5_isWanted_X5_trainOf rfl rfl rfl (by decide +kernel) ⟨Nat.le_of_ble_eq_true rfl, Nat.le_of_ble_eq_true rfl⟩) rfl hl.1 (Nat.le_of_ble_eq_true rfl) dX5_isWanted_68 ⟨Nat.zero_le _, Nat.zero_le _⟩ (fun r2 S2 H locs h Y => ?_)
        refine lv_if_le (tgt := 78) hx hb dX5_isWanted_71 (by decide) (fun c9 => ?_) (fun c9 => ?_)
        · have h := ty_t h c9
          refine lv_iconst (v := (0 : Int32)) hx hb dX5_isWanted_78 (by decide) ?_
          refine lv_istore_n (lv' := [(2, .int (0 : Int32)), (0, .ref (q 0)), (1, .int x1)]) hx hb dX5_isWanted_79 rfl hl (by decide) rfl (fun ls hl => ?_)
          refine lv_iconst (v := (0 : Int32)) hx hb dX5_isWanted_80 (by decide) ?_
          refine lv_istore_n (lv' := [(3, .int (0 : Int32)), (2, .int (0 : Int32)), (0, .ref (q 0)), (1, .int x1)]) hx hb dX5_isWanted_81 rfl hl (by decide) rfl (fun ls hl => ?_)
          obtain ⟨n9, h⟩ := h
          exact wlX5_isWanted_82 X ih n9 _ _ _ _ _ _ _ h Y (lv_sub hl [2, 3, 1, 0] rfl)
        · have h := ty_f h c9
          refine lv_iconst (v := (1 : Int32)) hx hb dX5_isWanted_74 (by decide) ?_
          refine lv_goto (tgt := 79) hx hb dX5_isWanted_75 (by decide) ?_
          refine lv_istore_n (lv' := [(2, .int (1 : Int32)), (0, .ref (q 0)), (1, .int x1)]) hx hb dX5_isWanted_79 rfl hl (by decide) rfl (fun ls hl => ?_)
          refine lv_iconst (v := (0 : Int32)) hx hb dX5_isWanted_80 (by decide) ?_
          refine lv_istore_n (lv' := [(3, .int (0 : Int32)), (2, .int (1 : Int32)), (0, .ref (q 0)), (1, .int x1)]) hx hb dX5_isWanted_81 rfl hl (by decide) rfl (fun ls hl => ?_)
          obtain ⟨n9, h⟩ := h
          exact wlX5_isWanted_82 X ih n9 _ _ _ _ _ _ _ h Y (lv_sub hl [2, 3, 1, 0] rfl)
def lX5_isWanted_2 (K : ty_S → Int32 → Prop)  : Nat → Int32 → ty_S → Prop
  | 0, _, _ => False
  | n + 1, x1, S => (if (16 : Int32) ≤ x1 then ∃ n9, lX5_isWanted_45 K  n9 (0 : Int32) S else (vp_in x1 16 ∧ (if (S 43 x1.toNatClampNeg) < (0 : Int32) then lX5_isWanted_2 K  n (x1 + (1 : Int32)) S else (vp_in x1 16 ∧ (vp_in (S 43 x1.toNatClampNeg) 640 ∧ (eX5_trainOf S (S 31 (S 43 x1.toNatClampNeg).toNatClampNeg) (fun S3 r3 => (if r3 = (0 : Int32) then K S3 (1 : Int32) else lX5_isWanted_2 K  n (x1 + (1 : Int32)) S3))))))))
set_option maxHeartbeats 4000000 in
set_option maxRecDepth 100000 in
theorem wlX5_isWanted_2 {p : Program} {l : Launch} {e : Env} {s : State} {m : MethodId} {args : Array Value} {below : List Frame} {meth : Method} {c : Code} {D : va_G} {cA : Nat → ClassId} {q : Nat → Nat} {K : ty_S → Int32 → Prop}  (X : ty_X D cA p s m args meth c cX5_isWanted 5 (some .boolean) wsX5_isWanted RX5)  : ∀ (n : Nat) (x1 : Int32) (S : ty_S) (H : Heap) (locs : List Loc) (ls : Array Slot), lX5_isWanted_2 K  n x1 S → ty_Y D cA q ty_LM S s H locs → lv_has ls 5 [(0, .ref (q 0)), (1, .int x1)] → W p l e rX5_isWanted s m args below meth c H locs 0 0 (ty_MI D cA q ty_LM K below args s) (F0 m 2 ls []) := by
  have hx := X.1.1
  have hb := X.1.2.1
  intro n
  induction n with
  | zero =>
    intro x1 S H locs ls h
    exact False.elim h
  | succ n ih =>
    intro x1 S H locs ls h Y hl
    unfold lX5_isWanted_2 at h
    refine lv_iload_n hx hb dX5_isWanted_2 rfl (lv_at hl 1 rfl) ?_
    refine lv_bipush (v := (16 : Int32)) hx hb dX5_isWanted_3 (by decide) ?_
    refine lv_icmp_ge (tgt := 43) hx hb dX5_isWanted_5 (by decide) (fun c9 => ?_) (fun c9 => ?_)
    · have h := ty_t h c9
      refine lv_iconst (v := (0 : Int32)) hx hb dX5_isWanted_43 (by decide) ?_
      refine lv_istore_n (lv' := [(1, .int (0 : Int32)), (0, .ref (q 0))]) hx hb dX5_isWanted_44 rfl hl (by decide) rfl (fun ls hl => ?_)
      obtain ⟨n9, h⟩ := h
      exact wlX5_isWanted_45 X  n9 _ _ _ _ _ h Y (lv_sub hl [1, 0] rfl)
    · have h := ty_f h c9
      refine lv_aload_n hx hb dX5_isWanted_8 rfl (lv_at hl 0 rfl) ?_
      refine tg_X5_register X Y iX5_isWanted_X5 kX5_isWanted_4 dX5_isWanted_9 ?_
      refine lv_iload_n hx hb dX5_isWanted_12 rfl (lv_at hl 1 rfl) ?_
      refine ty_iald (v := (S 43 x1.toNatClampNeg)) X Y 14 16 43 rfl h.1 rfl dX5_isWanted_13 ?_
      have h := h.2
      refine lv_if_lt (tgt := 37) hx hb dX5_isWanted_14 (by decide) (fun c9 => ?_) (fun c9 => ?_)
      · have h := ty_t h c9
        refine lv_iinc (v := (x1 + (1 : Int32))) (lv' := [(1, .int (x1 + (1 : Int32))), (0, .ref (q 0))]) hx hb dX5_isWanted_37 hl (k := 1) rfl rfl (by decide) rfl (fun ls hl => ?_)
        refine lv_goto (tgt := 2) hx hb dX5_isWanted_40 (by decide) ?_
        exact ih _ _ _ _ _ h Y (lv_sub hl [1, 0] rfl)
      · have h := ty_f h c9
        refine lv_aload_n hx hb dX5_isWanted_17 rfl (lv_at hl 0 rfl) ?_
        refine lv_aload_n hx hb dX5_isWanted_18 rfl (lv_at hl 0 rfl) ?_
        refine tg_X5_home X Y iX5_isWanted_X5 kX5_isWanted_3 dX5_isWanted_19 ?_
        refine lv_aload_n hx hb dX5_isWanted_22 rfl (lv_at hl 0 rfl) ?_
        refine tg_X5_register X Y iX5_isWanted_X5 kX5_isWanted_4 dX5_isWanted_23 ?_
        refine lv_iload_n hx hb dX5_isWanted_26 rfl (lv_at hl 1 rfl) ?_
        refine ty_iald (v := (S 43 x1.toNatClampNeg)) X Y 14 16 43 rfl h.1 rfl dX5_isWanted_27 ?_
        have h := h.2
        refine ty_iald (v := (S 31 (S 43 x1.toNatClampNeg).toNatClampNeg)) X Y 2 640 31 rfl h.1 rfl dX5_isWanted_28 ?_
        have h := h.2
        refine ty_Vi (As := [.int (S 31 (S 43 x1.toNatClampNeg).toNatClampNeg)]) (b := 0) (rest := []) X Y (cX5_trainOf_C l D cA q S (S 31 (S 43 x1.toNatClampNeg).toNatClampNeg) _ h) rfl rfl (fun hts => cwV 1 hts gX5_isWanted_X5_trainOf rfl rfl rfl (by decide +kernel) ⟨Nat.le_of_ble_eq_true rfl, Nat.le_of_ble_eq_true rfl⟩) rfl hl.1 (Nat.le_of_ble_eq_true rfl) dX5_isWanted_29 ⟨Nat.zero_le _, Nat.zero_le _⟩ (fun r3 S3 H locs h Y => ?_)
        refine lv_if_ne (tgt := 37) hx hb dX5_isWanted_32 (by decide) (fun c9 => ?_) (fun c9 => ?_)
        · have h := ty_f h c9
          refine lv_iinc (v := (x1 + (1 : Int32))) (lv' := [(1, .int (x1 + (1 : Int32))), (0, .ref (q 0))]) hx hb dX5_isWanted_37 hl (k := 1) rfl rfl (by decide) rfl (fun ls hl => ?_)
          refine lv_goto (tgt := 2) hx hb dX5_isWanted_40 (by decide) ?_
          exact ih _ _ _ _ _ h Y (lv_sub hl [1, 0] rfl)
        · have h := ty_t h c9
          refine lv_iconst (v := (1 : Int32)) hx hb dX5_isWanted_35 (by decide) ?_
          exact ty_zret X Y h rfl dX5_isWanted_36
def eX5_isWanted (S : ty_S)  (K : ty_S → Int32 → Prop) : Prop :=
  ∃ n9, lX5_isWanted_2 K  n9 (0 : Int32) S
set_option maxHeartbeats 4000000 in
set_option maxRecDepth 100000 in
theorem cX5_isWanted_C (l : Launch) (D : va_G) (cA : Nat → ClassId) (q : Nat → Nat) (S : ty_S)  (K : ty_S → Int32 → Prop) (h : eX5_isWanted S  K) : ∀ sz, Met l yX5_isWanted wsX5_isWanted rX5_isWanted (ty_Pc D cA q ty_LM S sz [.ref (q 0)]) (ty_Qi D cA q ty_LM sz K) 0 0 (ty_A q ty_LM.length sz) := by
  refine ty_ofM (ret := (some .boolean)) (maxL := 5) (cc := cX5_isWanted) (own := RX5) (Qc := fun sz => ty_Qi D cA q ty_LM sz K) (by decide +kernel) rfl (Nat.le_of_ble_eq_true rfl) rfl ?_
  intro p e s m args below meth c ls X hl Y
  have hx := X.1.1
  have hb := X.1.2.1
  have hl : lv_has ls 5 [(0, .ref (q 0))] := hl
  unfold eX5_isWanted at h
  refine lv_iconst (v := (0 : Int32)) hx hb dX5_isWanted_0 (by decide) ?_
  refine lv_istore_n (lv' := [(1, .int (0 : Int32)), (0, .ref (q 0))]) hx hb dX5_isWanted_1 rfl hl (by decide) rfl (fun ls hl => ?_)
  obtain ⟨n9, h⟩ := h
  exact wlX5_isWanted_2 X  n9 _ _ _ _ _ h Y (lv_sub hl [1, 0] rfl)

abbrev rX5_forget : Room := { frames := 0, cells := 0, slots := 0, locals := 0 }
theorem kX5_forget_0 : Cond.fieldLink RX5 34 "TrainYardModel" "count" "[I" ∈ wsX5_forget := ty_m 1 (by decide +kernel)
theorem kX5_forget_1 : Cond.fieldLink RX5 31 "TrainYardModel" "used" "[I" ∈ wsX5_forget := ty_m 5 (by decide +kernel)
theorem kX5_forget_2 : Cond.fieldLink RX5 132 "TrainYardModel" "gone" "I" ∈ wsX5_forget := ty_m 6 (by decide +kernel)
theorem kX5_forget_3 : Cond.fieldLink RX5 37 "TrainYardModel" "has" "[I" ∈ wsX5_forget := ty_m 2 (by decide +kernel)
theorem kX5_forget_4 : Cond.fieldLink RX5 7 "TrainYardModel" "label" "[I" ∈ wsX5_forget := ty_m 3 (by decide +kernel)
theorem kX5_forget_5 : Cond.fieldLink RX5 13 "TrainYardModel" "home" "[I" ∈ wsX5_forget := ty_m 4 (by decide +kernel)
theorem iX5_forget_X5 : ∀ w ∈ wsX50, w ∈ wsX5_forget := ty_inp _ [7, 8, 9, 10, 11, 12, 13, 14, 15, 16, 17, 18, 19, 20, 21, 22, 23, 24, 25, 26, 27, 28, 29, 30, 31, 32, 33, 34, 35, 36, 37] (by decide +kernel)
def lX5_forget_4 (K : ty_S → Int32 → Prop)  : Nat → Int32 → Int32 → Int32 → ty_S → Prop
  | 0, _, _, _, _ => False
  | n + 1, x1, x2, x3, S => (vp_in x1 40 ∧ (if (S 38 x1.toNatClampNeg) ≤ x3 then (vp_in x1 40 ∧ (vp_in x1 40 ∧ K (ty_st (ty_st (ty_st S 38 x1.toNatClampNeg (0 : Int32)) 37 x1.toNatClampNeg (0 : Int32)) 54 0 ((S 54 0) + x2)) x2)) else (vp_in (((16 : Int32) * x1) + x3) 640 ∧ (vp_in (S 39 (((16 : Int32) * x1) + x3).toNatClampNeg) 640 ∧ (if (S 30 (S 39 (((16 : Int32) * x1) + x3).toNatClampNeg).toNatClampNeg) ≤ (0 : Int32) then lX5_forget_4 K  n x1 x2 (x3 + (1 : Int32)) S else (vp_in (S 39 (((16 : Int32) * x1) + x3).toNatClampNeg) 640 ∧ (if (S 31 (S 39 (((16 : Int32) * x1) + x3).toNatClampNeg).toNatClampNeg) = x1 then (vp_in (S 39 (((16 : Int32) * x1) + x3).toNatClampNeg) 640 ∧ lX5_forget_4 K  n x1 (x2 + (1 : Int32)) (x3 + (1 : Int32)) (ty_st S 30 (S 39 (((16 : Int32) * x1) + x3).toNatClampNeg).toNatClampNeg (0 : Int32))) else lX5_forget_4 K  n x1 x2 (x3 + (1 : Int32)) S)))))))
set_option maxHeartbeats 4000000 in
set_option maxRecDepth 100000 in
theorem wlX5_forget_4 {p : Program} {l : Launch} {e : Env} {s : State} {m : MethodId} {args : Array Value} {below : List Frame} {meth : Method} {c : Code} {D : va_G} {cA : Nat → ClassId} {q : Nat → Nat} {K : ty_S → Int32 → Prop}  (X : ty_X D cA p s m args meth c cX5_forget 5 (some .int) wsX5_forget RX5)  : ∀ (n : Nat) (x1 : Int32) (x2 : Int32) (x3 : Int32) (S : ty_S) (H : Heap) (locs : List Loc) (ls : Array Slot), lX5_forget_4 K  n x1 x2 x3 S → ty_Y D cA q ty_LM S s H locs → lv_has ls 5 [(0, .ref (q 0)), (1, .int x1), (2, .int x2), (3, .int x3)] → W p l e rX5_forget s m args below meth c H locs 0 0 (ty_MI D cA q ty_LM K below args s) (F0 m 4 ls []) := by
  have hx := X.1.1
  have hb := X.1.2.1
  intro n
  induction n with
  | zero =>
    intro x1 x2 x3 S H locs ls h
    exact False.elim h
  | succ n ih =>
    intro x1 x2 x3 S H locs ls h Y hl
    unfold lX5_forget_4 at h
    refine lv_iload_n hx hb dX5_forget_4 rfl (lv_at hl 3 rfl) ?_
    refine lv_aload_n hx hb dX5_forget_5 rfl (lv_at hl 0 rfl) ?_
    refine tg_X5_count X Y iX5_forget_X5 kX5_forget_0 dX5_forget_6 ?_
    refine lv_iload_n hx hb dX5_forget_9 rfl (lv_at hl 1 rfl) ?_
    refine ty_iald (v := (S 38 x1.toNatClampNeg)) X Y 9 40 38 rfl h.1 rfl dX5_forget_10 ?_
    have h := h.2
    refine lv_icmp_ge (tgt := 65) hx hb dX5_forget_11 (by decide) (fun c9 => ?_) (fun c9 => ?_)
    · have h := ty_t h c9
      refine lv_aload_n hx hb dX5_forget_65 rfl (lv_at hl 0 rfl) ?_
      refine tg_X5_count X Y iX5_forget_X5 kX5_forget_0 dX5_forget_66 ?_
      refine lv_iload_n hx hb dX5_forget_69 rfl (lv_at hl 1 rfl) ?_
      refine lv_iconst (v := (0 : Int32)) hx hb dX5_forget_70 (by decide) ?_
      refine ty_iast X Y 9 40 38 rfl (by decide) h.1 dX5_forget_71 (fun H locs Y => ?_)
      have h := h.2
      refine lv_aload_n hx hb dX5_forget_72 rfl (lv_at hl 0 rfl) ?_
      refine tg_X5_used X Y iX5_forget_X5 kX5_forget_1 dX5_forget_73 ?_
      refine lv_iload_n hx hb dX5_forget_76 rfl (lv_at hl 1 rfl) ?_
      refine lv_iconst (v := (0 : Int32)) hx hb dX5_forget_77 (by decide) ?_
      refine ty_iast X Y 8 40 37 rfl (by decide) h.1 dX5_forget_78 (fun H locs Y => ?_)
      have h := h.2
      refine lv_aload_n hx hb dX5_forget_79 rfl (lv_at hl 0 rfl) ?_
      refine lv_dup hx hb dX5_forget_80 rfl ?_
      refine tg_X5_gone (v := (S 54 0)) X Y iX5_forget_X5 kX5_forget_2 rfl dX5_forget_81 ?_
      refine lv_iload_n hx hb dX5_forget_84 rfl (lv_at hl 2 rfl) ?_
      refine lv_iadd hx hb dX5_forget_85 ?_
      refine tp_X5_gone X Y iX5_forget_X5 kX5_forget_2 dX5_forget_86 (fun H locs Y => ?_)
      refine lv_iload_n hx hb dX5_forget_89 rfl (lv_at hl 2 rfl) ?_
      exact ty_iret X Y h dX5_forget_90
    · have h := ty_f h c9
      refine lv_aload_n hx hb dX5_forget_14 rfl (lv_at hl 0 rfl) ?_
      refine tg_X5_has X Y iX5_forget_X5 kX5_forget_3 dX5_forget_15 ?_
      refine lv_bipush (v := (16 : Int32)) hx hb dX5_forget_18 (by decide) ?_
      refine lv_iload_n hx hb dX5_forget_20 rfl (lv_at hl 1 rfl) ?_
      refine lv_imul hx hb dX5_forget_21 ?_
      refine lv_iload_n hx hb dX5_forget_22 rfl (lv_at hl 3 rfl) ?_
      refine lv_iadd hx hb dX5_forget_23 ?_
      refine ty_iald (v := (S 39 (((16 : Int32) * x1) + x3).toNatClampNeg)) X Y 10 640 39 rfl h.1 rfl dX5_forget_24 ?_
      have h := h.2
      refine lv_istore (lv' := [(4, .int (S 39 (((16 : Int32) * x1) + x3).toNatClampNeg)), (0, .ref (q 0)), (1, .int x1), (2, .int x2), (3, .int x3)]) hx hb dX5_forget_25 hl (by decide) rfl (fun ls hl => ?_)
      refine lv_aload_n hx hb dX5_forget_27 rfl (lv_at hl 1 rfl) ?_
      refine tg_X5_label X Y iX5_forget_X5 kX5_forget_4 dX5_forget_28 ?_
      refine lv_iload hx hb dX5_forget_31 (lv_at hl 0 rfl) ?_
      refine ty_iald (v := (S 30 (S 39 (((16 : Int32) * x1) + x3).toNatClampNeg).toNatClampNeg)) X Y 1 640 30 rfl h.1 rfl dX5_forget_33 ?_
      have h := h.2
      refine lv_if_le (tgt := 59) hx hb dX5_forget_34 (by decide) (fun c9 => ?_) (fun c9 => ?_)
      · have h := ty_t h c9
        refine lv_iinc (v := (x3 + (1 : Int32))) (lv' := [(3, .int (x3 + (1 : Int32))), (4, .int (S 39 (((16 : Int32) * x1) + x3).toNatClampNeg)), (0, .ref (q 0)), (1, .int x1), (2, .int x2)]) hx hb dX5_forget_59 hl (k := 4) rfl rfl (by decide) rfl (fun ls hl => ?_)
        refine lv_goto (tgt := 4) hx hb dX5_forget_62 (by decide) ?_
        exact ih _ _ _ _ _ _ _ h Y (lv_sub hl [2, 3, 4, 0] rfl)
      · have h := ty_f h c9
        refine lv_aload_n hx hb dX5_forget_37 rfl (lv_at hl 1 rfl) ?_
        refine tg_X5_home X Y iX5_forget_X5 kX5_forget_5 dX5_forget_38 ?_
        refine lv_iload hx hb dX5_forget_41 (lv_at hl 0 rfl) ?_
        refine ty_iald (v := (S 31 (S 39 (((16 : Int32) * x1) + x3).toNatClampNeg).toNatClampNeg)) X Y 2 640 31 rfl h.1 rfl dX5_forget_43 ?_
        have h := h.2
        refine lv_iload_n hx hb dX5_forget_44 rfl (lv_at hl 2 rfl) ?_
        refine lv_icmp_ne (tgt := 59) hx hb dX5_forget_45 (by decide) (fun c9 => ?_) (fun c9 => ?_)
        · have h := ty_f h c9
          refine lv_iinc (v := (x3 + (1 : Int32))) (lv' := [(3, .int (x3 + (1 : Int32))), (4, .int (S 39 (((16 : Int32) * x1) + x3).toNatClampNeg)), (0, .ref (q 0)), (1, .int x1), (2, .int x2)]) hx hb dX5_forget_59 hl (k := 4) rfl rfl (by decide) rfl (fun ls hl => ?_)
          refine lv_goto (tgt := 4) hx hb dX5_forget_62 (by decide) ?_
          exact ih _ _ _ _ _ _ _ h Y (lv_sub hl [2, 3, 4, 0] rfl)
        · have h := ty_t h c9
          refine lv_aload_n hx hb dX5_forget_48 rfl (lv_at hl 1 rfl) ?_
          refine tg_X5_label X Y iX5_forget_X5 kX5_forget_4 dX5_forget_49 ?_
          refine lv_iload hx hb dX5_forget_52 (lv_at hl 0 rfl) ?_
          refine lv_iconst (v := (0 : Int32)) hx hb dX5_forget_54 (by decide) ?_
          refine ty_iast X Y 1 640 30 rfl (by decide) h.1 dX5_forget_55 (fun H locs Y => ?_)
          have h := h.2
          refine lv_iinc (v := (x2 + (1 : Int32))) (lv' := [(2, .int (x2 + (1 : Int32))), (4, .int (S 39 (((16 : Int32) * x1) + x3).toNatClampNeg)), (0, .ref (q 0)), (1, .int x1), (3, .int x3)]) hx hb dX5_forget_56 hl (k := 3) rfl rfl (by decide) rfl (fun ls hl => ?_)
          refine lv_iinc (v := (x3 + (1 : Int32))) (lv' := [(3, .int (x3 + (1 : Int32))), (2, .int (x2 + (1 : Int32))), (4, .int (S 39 (((16 : Int32) * x1) + x3).toNatClampNeg)), (0, .ref (q 0)), (1, .int x1)]) hx hb dX5_forget_59 hl (k := 4) rfl rfl (by decide) rfl (fun ls hl => ?_)
          refine lv_goto (tgt := 4) hx hb dX5_forget_62 (by decide) ?_
          exact ih _ _ _ _ _ _ _ h Y (lv_sub hl [3, 4, 1, 0] rfl)
def eX5_forget (S : ty_S) (x1 : Int32) (K : ty_S → Int32 → Prop) : Prop :=
  ∃ n9, lX5_forget_4 K  n9 x1 (0 : Int32) (0 : Int32) S
set_option maxHeartbeats 4000000 in
set_option maxRecDepth 100000 in
theorem cX5_forget_C (l : Launch) (D : va_G) (cA : Nat → ClassId) (q : Nat → Nat) (S : ty_S) (x1 : Int32) (K : ty_S → Int32 → Prop) (h : eX5_forget S x1 K) : ∀ sz, Met l yX5_forget wsX5_forget rX5_forget (ty_Pc D cA q ty_LM S sz [.ref (q 0), .int x1]) (ty_Qi D cA q ty_LM sz K) 0 0 (ty_A q ty_LM.length sz) := by
  refine ty_ofM (ret := (some .int)) (maxL := 5) (cc := cX5_forget) (own := RX5) (Qc := fun sz => ty_Qi D cA q ty_LM sz K) (by decide +kernel) rfl (Nat.le_of_ble_eq_true rfl) rfl ?_
  intro p e s m args below meth c ls X hl Y
  have hx := X.1.1
  have hb := X.1.2.1
  have hl : lv_has ls 5 [(0, .ref (q 0)), (1, .int x1)] := hl
  unfold eX5_forget at h
  refine lv_iconst (v := (0 : Int32)) hx hb dX5_forget_0 (by decide) ?_
  refine lv_istore_n (lv' := [(2, .int (0 : Int32)), (0, .ref (q 0)), (1, .int x1)]) hx hb dX5_forget_1 rfl hl (by decide) rfl (fun ls hl => ?_)
  refine lv_iconst (v := (0 : Int32)) hx hb dX5_forget_2 (by decide) ?_
  refine lv_istore_n (lv' := [(3, .int (0 : Int32)), (2, .int (0 : Int32)), (0, .ref (q 0)), (1, .int x1)]) hx hb dX5_forget_3 rfl hl (by decide) rfl (fun ls hl => ?_)
  obtain ⟨n9, h⟩ := h
  exact wlX5_forget_4 X  n9 _ _ _ _ _ _ _ h Y (lv_sub hl [2, 3, 1, 0] rfl)

abbrev rX5_oneStep : Room := { frames := 5, cells := 0, slots := 0, locals := 122 }
theorem kX5_oneStep_0 : Cond.fieldLink RX5 135 "TrainYardModel" "steps" "I" ∈ wsX5_oneStep := ty_m 1 (by decide +kernel)
theorem kX5_oneStep_1 : Cond.fieldLink RX5 46 "TrainYardModel" "trainCar" "[I" ∈ wsX5_oneStep := ty_m 3 (by decide +kernel)
theorem kX5_oneStep_2 : Cond.fieldLink RX5 56 "TrainYardModel" "emptied" "I" ∈ wsX5_oneStep := ty_m 5 (by decide +kernel)
theorem kX5_oneStep_3 : Cond.fieldLink RX5 43 "TrainYardModel" "trainSize" "[I" ∈ wsX5_oneStep := ty_m 2 (by decide +kernel)
theorem kX5_oneStep_4 : Cond.fieldLink RX5 129 "TrainYardModel" "froms" "I" ∈ wsX5_oneStep := ty_m 8 (by decide +kernel)
theorem kX5_oneStep_5 : Cond.fieldLink RX5 62 "TrainYardModel" "from" "[I" ∈ wsX5_oneStep := ty_m 9 (by decide +kernel)
theorem kX5_oneStep_6 : Cond.fieldLink RX5 25 "TrainYardModel" "to" "[I" ∈ wsX5_oneStep := ty_m 10 (by decide +kernel)
theorem kX5_oneStep_7 : Cond.fieldLink RX5 65 "TrainYardModel" "fromWhich" "[I" ∈ wsX5_oneStep := ty_m 11 (by decide +kernel)
theorem kX5_oneStep_8 : Cond.fieldLink RX5 68 "TrainYardModel" "fromFirst" "[Z" ∈ wsX5_oneStep := ty_m 12 (by decide +kernel)
theorem kX5_oneStep_9 : Cond.fieldLink RX5 13 "TrainYardModel" "home" "[I" ∈ wsX5_oneStep := ty_m 13 (by decide +kernel)
theorem kX5_oneStep_10 : Cond.fieldLink RX5 49 "TrainYardModel" "register" "[I" ∈ wsX5_oneStep := ty_m 6 (by decide +kernel)
theorem kX5_oneStep_11 : Cond.fieldLink RX5 78 "TrainYardModel" "trains" "I" ∈ wsX5_oneStep := ty_m 7 (by decide +kernel)
theorem kX5_oneStep_12 : Cond.fieldLink RX5 145 "TrainYardModel" "whole" "I" ∈ wsX5_oneStep := ty_m 4 (by decide +kernel)
theorem iX5_oneStep_X5 : ∀ w ∈ wsX50, w ∈ wsX5_oneStep := ty_inp _ [92, 93, 94, 95, 96, 97, 98, 99, 100, 101, 102, 103, 104, 105, 106, 107, 108, 109, 110, 111, 112, 113, 114, 115, 116, 117, 118, 119, 120, 121, 122] (by decide +kernel)
def lX5_oneStep_267 (K : ty_S → Int32 → Prop)  : Nat → Int32 → Int32 → ty_S → Prop
  | 0, _, _, _ => False
  | n + 1, x1, x2, S => (vp_in (0 : Int32) 41 ∧ (if (S 41 (0 : Int32).toNatClampNeg) ≤ x2 then (vp_in (0 : Int32) 41 ∧ (if (S 41 (0 : Int32).toNatClampNeg) = (0 : Int32) then (eX5_removeTrain (ty_st S 59 0 (-1 : Int32)) (0 : Int32) (fun S4 => K S4 x1)) else K (ty_st S 59 0 (-1 : Int32)) x1)) else (vp_in (x2 + (1 : Int32)) 1640 ∧ (vp_in x2 1640 ∧ lX5_oneStep_267 K  n x1 (x2 + (1 : Int32)) (ty_st S 42 x2.toNatClampNeg (S 42 (x2 + (1 : Int32)).toNatClampNeg))))))
set_option maxHeartbeats 4000000 in
set_option maxRecDepth 100000 in
theorem wlX5_oneStep_267 {p : Program} {l : Launch} {e : Env} {s : State} {m : MethodId} {args : Array Value} {below : List Frame} {meth : Method} {c : Code} {D : va_G} {cA : Nat → ClassId} {q : Nat → Nat} {K : ty_S → Int32 → Prop}  (X : ty_X D cA p s m args meth c cX5_oneStep 6 (some .int) wsX5_oneStep RX5)  : ∀ (n : Nat) (x1 : Int32) (x2 : Int32) (S : ty_S) (H : Heap) (locs : List Loc) (ls : Array Slot), lX5_oneStep_267 K  n x1 x2 S → ty_Y D cA q ty_LM S s H locs → lv_has ls 6 [(0, .ref (q 0)), (1, .int x1), (2, .int x2)] → W p l e rX5_oneStep s m args below meth c H locs 0 0 (ty_MI D cA q ty_LM K below args s) (F0 m 267 ls []) := by
  have hx := X.1.1
  have hb := X.1.2.1
  intro n
  induction n with
  | zero =>
    intro x1 x2 S H locs ls h
    exact False.elim h
  | succ n ih =>
    intro x1 x2 S H locs ls h Y hl
    unfold lX5_oneStep_267 at h
    refine lv_iload_n hx hb dX5_oneStep_267 rfl (lv_at hl 2 rfl) ?_
    refine lv_aload_n hx hb dX5_oneStep_268 rfl (lv_at hl 0 rfl) ?_
    refine tg_X5_trainSize X Y iX5_oneStep_X5 kX5_oneStep_3 dX5_oneStep_269 ?_
    refine lv_iconst (v := (0 : Int32)) hx hb dX5_oneStep_272 (by decide) ?_
    refine ty_iald (v := (S 41 (0 : Int32).toNatClampNeg)) X Y 12 41 41 rfl h.1 rfl dX5_oneStep_273 ?_
    have h := h.2
    refine lv_icmp_ge (tgt := 297) hx hb dX5_oneStep_274 (by decide) (fun c9 => ?_) (fun c9 => ?_)
    · have h := ty_t h c9
      refine lv_aload_n hx hb dX5_oneStep_297 rfl (lv_at hl 0 rfl) ?_
      refine lv_iconst (v := (-1 : Int32)) hx hb dX5_oneStep_298 (by decide) ?_
      refine tp_X5_emptied X Y iX5_oneStep_X5 kX5_oneStep_2 dX5_oneStep_299 (fun H locs Y => ?_)
      refine lv_aload_n hx hb dX5_oneStep_302 rfl (lv_at hl 0 rfl) ?_
      refine tg_X5_trainSize X Y iX5_oneStep_X5 kX5_oneStep_3 dX5_oneStep_303 ?_
      refine lv_iconst (v := (0 : Int32)) hx hb dX5_oneStep_306 (by decide) ?_
      refine ty_iald (v := (S 41 (0 : Int32).toNatClampNeg)) X Y 12 41 41 rfl h.1 rfl dX5_oneStep_307 ?_
      have h := h.2
      refine lv_if_ne (tgt := 316) hx hb dX5_oneStep_308 (by decide) (fun c9 => ?_) (fun c9 => ?_)
      · have h := ty_f h c9
        refine lv_iload_n hx hb dX5_oneStep_316 rfl (lv_at hl 1 rfl) ?_
        exact ty_iret X Y h dX5_oneStep_317
      · have h := ty_t h c9
        refine lv_aload_n hx hb dX5_oneStep_311 rfl (lv_at hl 0 rfl) ?_
        refine lv_iconst (v := (0 : Int32)) hx hb dX5_oneStep_312 (by decide) ?_
        refine ty_Vv (As := [.int (0 : Int32)]) (b := 0) (rest := []) X Y (cX5_removeTrain_C l D cA q (ty_st S 59 0 (-1 : Int32)) (0 : Int32) _ h) rfl rfl (fun hts => cwV 1 hts gX5_oneStep_X5_removeTrain rfl rfl rfl (by decide +kernel) ⟨Nat.le_of_ble_eq_true rfl, Nat.le_of_ble_eq_true rfl⟩) rfl hl.1 (Nat.le_of_ble_eq_true rfl) dX5_oneStep_313 ⟨Nat.zero_le _, Nat.zero_le _⟩ (fun S4 H locs h Y => ?_)
        refine lv_iload_n hx hb dX5_oneStep_316 rfl (lv_at hl 1 rfl) ?_
        exact ty_iret X Y h dX5_oneStep_317
    · have h := ty_f h c9
      refine lv_aload_n hx hb dX5_oneStep_277 rfl (lv_at hl 0 rfl) ?_
      refine tg_X5_trainCar X Y iX5_oneStep_X5 kX5_oneStep_1 dX5_oneStep_278 ?_
      refine lv_iload_n hx hb dX5_oneStep_281 rfl (lv_at hl 2 rfl) ?_
      refine lv_aload_n hx hb dX5_oneStep_282 rfl (lv_at hl 0 rfl) ?_
      refine tg_X5_trainCar X Y iX5_oneStep_X5 kX5_oneStep_1 dX5_oneStep_283 ?_
      refine lv_iload_n hx hb dX5_oneStep_286 rfl (lv_at hl 2 rfl) ?_
      refine lv_iconst (v := (1 : Int32)) hx hb dX5_oneStep_287 (by decide) ?_
      refine lv_iadd hx hb dX5_oneStep_288 ?_
      refine ty_iald (v := (S 42 (x2 + (1 : Int32)).toNatClampNeg)) X Y 13 1640 42 rfl h.1 rfl dX5_oneStep_289 ?_
      have h := h.2
      refine ty_iast X Y 13 1640 42 rfl (by decide) h.1 dX5_oneStep_290 (fun H locs Y => ?_)
      have h := h.2
      refine lv_iinc (v := (x2 + (1 : Int32))) (lv' := [(2, .int (x2 + (1 : Int32))), (0, .ref (q 0)), (1, .int x1)]) hx hb dX5_oneStep_291 hl (k := 2) rfl rfl (by decide) rfl (fun ls hl => ?_)
      refine lv_goto (tgt := 267) hx hb dX5_oneStep_294 (by decide) ?_
      exact ih _ _ _ _ _ _ h Y (lv_sub hl [1, 2, 0] rfl)
def jX5_oneStep_196 (K : ty_S → Int32 → Prop) (R138 : Int32 → ty_S → Prop) (R145 : Int32 → Int32 → ty_S → Prop) (x2 : Int32) (x3 : Int32) (x4 : Int32) (x5 : Int32) (t0 : Int32) (t1 : Int32) (S : ty_S) : Prop :=
  (if t1 = t0 then (eX5_isInCar S x5 (fun S5 r5 => (if r5 = (0 : Int32) then R145 x2 (x3 + (1 : Int32)) S5 else (if x2 = (1 : Int32) then (eX5_moveAll S5 x5 (0 : Int32) (fun S8 => R145 x2 (x3 + (1 : Int32)) S8)) else (vp_in x4 640 ∧ (eX5_trainOf S5 (S5 31 x4.toNatClampNeg) (fun S6 r6 => (eX5_moveAll S6 x5 r6 (fun S7 => R145 x2 (x3 + (1 : Int32)) S7))))))))) else R145 x2 (x3 + (1 : Int32)) S)
set_option maxHeartbeats 4000000 in
set_option maxRecDepth 100000 in
theorem wjX5_oneStep_196 {p : Program} {l : Launch} {e : Env} {s : State} {m : MethodId} {args : Array Value} {below : List Frame} {meth : Method} {c : Code} {D : va_G} {cA : Nat → ClassId} {q : Nat → Nat} {K : ty_S → Int32 → Prop} {R138 : Int32 → ty_S → Prop} {R145 : Int32 → Int32 → ty_S → Prop} (X : ty_X D cA p s m args meth c cX5_oneStep 6 (some .int) wsX5_oneStep RX5) (hR138 : ∀ (x2 : Int32) (S : ty_S) (H : Heap) (locs : List Loc) (ls : Array Slot), R138 x2 S → ty_Y D cA q ty_LM S s H locs → lv_has ls 6 [(0, .ref (q 0)), (2, .int x2)] → W p l e rX5_oneStep s m args below meth c H locs 0 0 (ty_MI D cA q ty_LM K below args s) (F0 m 138 ls [])) (hR145 : ∀ (x2 : Int32) (x3 : Int32) (S : ty_S) (H : Heap) (locs : List Loc) (ls : Array Slot), R145 x2 x3 S → ty_Y D cA q ty_LM S s H locs → lv_has ls 6 [(0, .ref (q 0)), (2, .int x2), (3, .int x3)] → W p l e rX5_oneStep s m args below meth c H locs 0 0 (ty_MI D cA q ty_LM K below args s) (F0 m 145 ls [])) (x2 : Int32) (x3 : Int32) (x4 : Int32) (x5 : Int32) (t0 : Int32) (t1 : Int32) (S : ty_S) (H : Heap) (locs : List Loc) (ls : Array Slot) (h : jX5_oneStep_196 K R138 R145 x2 x3 x4 x5 t0 t1 S) (Y : ty_Y D cA q ty_LM S s H locs) (hl : lv_has ls 6 [(0, .ref (q 0)), (2, .int x2), (3, .int x3), (4, .int x4), (5, .int x5)]) : W p l e rX5_oneStep s m args below meth c H locs 0 0 (ty_MI D cA q ty_LM K below args s) (F0 m 196 ls [.int t0, .int t1]) := by
  have hx := X.1.1
  have hb := X.1.2.1
  unfold jX5_oneStep_196 at h
  refine lv_icmp_ne (tgt := 234) hx hb dX5_oneStep_196 (by decide) (fun c9 => ?_) (fun c9 => ?_)
  · have h := ty_f h c9
    refine lv_iinc (v := (x3 + (1 : Int32))) (lv' := [(3, .int (x3 + (1 : Int32))), (0, .ref (q 0)), (2, .int x2), (4, .int x4), (5, .int x5)]) hx hb dX5_oneStep_234 hl (k := 2) rfl rfl (by decide) rfl (fun ls hl => ?_)
    refine lv_goto (tgt := 145) hx hb dX5_oneStep_237 (by decide) ?_
    exact hR145 _ _ _ _ _ _ h Y (lv_sub hl [1, 2, 0] rfl)
  · have h := ty_t h c9
    refine lv_aload_n hx hb dX5_oneStep_199 rfl (lv_at hl 0 rfl) ?_
    refine lv_iload hx hb dX5_oneStep_200 (lv_at hl 4 rfl) ?_
    refine ty_Vi (As := [.int x5]) (b := 0) (rest := []) X Y (cX5_isInCar_C l D cA q S x5 _ h) rfl rfl (fun hts => cwV 1 hts gX5_oneStep_X5_isInCar rfl rfl rfl (by decide +kernel) ⟨Nat.le_of_ble_eq_true rfl, Nat.le_of_ble_eq_true rfl⟩) rfl hl.1 (Nat.le_of_ble_eq_true rfl) dX5_oneStep_202 ⟨Nat.zero_le _, Nat.zero_le _⟩ (fun r5 S5 H locs h Y => ?_)
    refine lv_if_eq (tgt := 234) hx hb dX5_oneStep_205 (by decide) (fun c9 => ?_) (fun c9 => ?_)
    · have h := ty_t h c9
      refine lv_iinc (v := (x3 + (1 : Int32))) (lv' := [(3, .int (x3 + (1 : Int32))), (0, .ref (q 0)), (2, .int x2), (4, .int x4), (5, .int x5)]) hx hb dX5_oneStep_234 hl (k := 2) rfl rfl (by decide) rfl (fun ls hl => ?_)
      refine lv_goto (tgt := 145) hx hb dX5_oneStep_237 (by decide) ?_
      exact hR145 _ _ _ _ _ _ h Y (lv_sub hl [1, 2, 0] rfl)
    · have h := ty_f h c9
      refine lv_aload_n hx hb dX5_oneStep_208 rfl (lv_at hl 0 rfl) ?_
      refine lv_iload hx hb dX5_oneStep_209 (lv_at hl 4 rfl) ?_
      refine lv_iload_n hx hb dX5_oneStep_211 rfl (lv_at hl 1 rfl) ?_
      refine lv_iconst (v := (1 : Int32)) hx hb dX5_oneStep_212 (by decide) ?_
      refine lv_icmp_ne (tgt := 220) hx hb dX5_oneStep_213 (by decide) (fun c9 => ?_) (fun c9 => ?_)
      · have h := ty_f h c9
        refine lv_aload_n hx hb dX5_oneStep_220 rfl (lv_at hl 0 rfl) ?_
        refine lv_aload_n hx hb dX5_oneStep_221 rfl (lv_at hl 0 rfl) ?_
        refine tg_X5_home X Y iX5_oneStep_X5 kX5_oneStep_9 dX5_oneStep_222 ?_
        refine lv_iload hx hb dX5_oneStep_225 (lv_at hl 3 rfl) ?_
        refine ty_iald (v := (S5 31 x4.toNatClampNeg)) X Y 2 640 31 rfl h.1 rfl dX5_oneStep_227 ?_
        have h := h.2
        refine ty_Vi (As := [.int (S5 31 x4.toNatClampNeg)]) (b := 0) (rest := [.int x5, .ref (q 0)]) X Y (cX5_trainOf_C l D cA q S5 (S5 31 x4.toNatClampNeg) _ h) rfl rfl (fun hts => cwV 1 hts gX5_oneStep_X5_trainOf rfl rfl rfl (by decide +kernel) ⟨Nat.le_of_ble_eq_true rfl, Nat.le_of_ble_eq_true rfl⟩) rfl hl.1 (Nat.le_of_ble_eq_true rfl) dX5_oneStep_228 ⟨Nat.zero_le _, Nat.zero_le _⟩ (fun r6 S6 H locs h Y => ?_)
        refine ty_Vv (As := [.int x5, .int r6]) (b := 0) (rest := []) X Y (cX5_moveAll_C l D cA q S6 x5 r6 _ h) rfl rfl (fun hts => cwV 2 hts gX5_oneStep_X5_moveAll rfl rfl rfl (by decide +kernel) ⟨Nat.le_of_ble_eq_true rfl, Nat.le_of_ble_eq_true rfl⟩) rfl hl.1 (Nat.le_of_ble_eq_true rfl) dX5_oneStep_231 ⟨Nat.zero_le _, Nat.zero_le _⟩ (fun S7 H locs h Y => ?_)
        refine lv_iinc (v := (x3 + (1 : Int32))) (lv' := [(3, .int (x3 + (1 : Int32))), (0, .ref (q 0)), (2, .int x2), (4, .int x4), (5, .int x5)]) hx hb dX5_oneStep_234 hl (k := 2) rfl rfl (by decide) rfl (fun ls hl => ?_)
        refine lv_goto (tgt := 145) hx hb dX5_oneStep_237 (by decide) ?_
        exact hR145 _ _ _ _ _ _ h Y (lv_sub hl [1, 2, 0] rfl)
      · have h := ty_t h c9
        refine lv_iconst (v := (0 : Int32)) hx hb dX5_oneStep_216 (by decide) ?_
        refine lv_goto (tgt := 231) hx hb dX5_oneStep_217 (by decide) ?_
        refine ty_Vv (As := [.int x5, .int (0 : Int32)]) (b := 0) (rest := []) X Y (cX5_moveAll_C l D cA q S5 x5 (0 : Int32) _ h) rfl rfl (fun hts => cwV 2 hts gX5_oneStep_X5_moveAll rfl rfl rfl (by decide +kernel) ⟨Nat.le_of_ble_eq_true rfl, Nat.le_of_ble_eq_true rfl⟩) rfl hl.1 (Nat.le_of_ble_eq_true rfl) dX5_oneStep_231 ⟨Nat.zero_le _, Nat.zero_le _⟩ (fun S8 H locs h Y => ?_)
        refine lv_iinc (v := (x3 + (1 : Int32))) (lv' := [(3, .int (x3 + (1 : Int32))), (0, .ref (q 0)), (2, .int x2), (4, .int x4), (5, .int x5)]) hx hb dX5_oneStep_234 hl (k := 2) rfl rfl (by decide) rfl (fun ls hl => ?_)
        refine lv_goto (tgt := 145) hx hb dX5_oneStep_237 (by decide) ?_
        exact hR145 _ _ _ _ _ _ h Y (lv_sub hl [1, 2, 0] rfl)
def lX5_oneStep_145 (K : ty_S → Int32 → Prop) (R138 : Int32 → ty_S → Prop) : Nat → Int32 → Int32 → ty_S → Prop
  | 0, _, _, _ => False
  | n + 1, x2, x3, S => (if (S 61 0) ≤ x3 then R138 (x2 + (1 : Int32)) S else (vp_in x3 1280 ∧ (vp_in x3 1280 ∧ (vp_in (((12 : Int32) * (S 45 x3.toNatClampNeg)) + (S 46 x3.toNatClampNeg)) 7680 ∧ (vp_in x3 1280 ∧ (if x2 = (1 : Int32) then jX5_oneStep_196 K R138 (fun a0 a1 S9 => lX5_oneStep_145 K R138 n a0 a1 S9) x2 x3 (S 45 x3.toNatClampNeg) (S 35 (((12 : Int32) * (S 45 x3.toNatClampNeg)) + (S 46 x3.toNatClampNeg)).toNatClampNeg) (1 : Int32) (S 47 x3.toNatClampNeg) S else jX5_oneStep_196 K R138 (fun a0 a1 S9 => lX5_oneStep_145 K R138 n a0 a1 S9) x2 x3 (S 45 x3.toNatClampNeg) (S 35 (((12 : Int32) * (S 45 x3.toNatClampNeg)) + (S 46 x3.toNatClampNeg)).toNatClampNeg) (0 : Int32) (S 47 x3.toNatClampNeg) S))))))
set_option maxHeartbeats 4000000 in
set_option maxRecDepth 100000 in
theorem wlX5_oneStep_145 {p : Program} {l : Launch} {e : Env} {s : State} {m : MethodId} {args : Array Value} {below : List Frame} {meth : Method} {c : Code} {D : va_G} {cA : Nat → ClassId} {q : Nat → Nat} {K : ty_S → Int32 → Prop} {R138 : Int32 → ty_S → Prop} (X : ty_X D cA p s m args meth c cX5_oneStep 6 (some .int) wsX5_oneStep RX5) (hR138 : ∀ (x2 : Int32) (S : ty_S) (H : Heap) (locs : List Loc) (ls : Array Slot), R138 x2 S → ty_Y D cA q ty_LM S s H locs → lv_has ls 6 [(0, .ref (q 0)), (2, .int x2)] → W p l e rX5_oneStep s m args below meth c H locs 0 0 (ty_MI D cA q ty_LM K below args s) (F0 m 138 ls [])) : ∀ (n : Nat) (x2 : Int32) (x3 : Int32) (S : ty_S) (H : Heap) (locs : List Loc) (ls : Array Slot), lX5_oneStep_145 K R138 n x2 x3 S → ty_Y D cA q ty_LM S s H locs → lv_has ls 6 [(0, .ref (q 0)), (2, .int x2), (3, .int x3)] → W p l e rX5_oneStep s m args below meth c H locs 0 0 (ty_MI D cA q ty_LM K below args s) (F0 m 145 ls []) := by
  have hx := X.1.1
  have hb := X.1.2.1
  intro n
  induction n with
  | zero =>
    intro x2 x3 S H locs ls h
    exact False.elim h
  | succ n ih =>
    intro x2 x3 S H locs ls h Y hl
    unfold lX5_oneStep_145 at h
    refine lv_iload_n hx hb dX5_oneStep_145 rfl (lv_at hl 2 rfl) ?_
    refine lv_aload_n hx hb dX5_oneStep_146 rfl (lv_at hl 0 rfl) ?_
    refine tg_X5_froms (v := (S 61 0)) X Y iX5_oneStep_X5 kX5_oneStep_4 rfl dX5_oneStep_147 ?_
    refine lv_icmp_ge (tgt := 240) hx hb dX5_oneStep_150 (by decide) (fun c9 => ?_) (fun c9 => ?_)
    · have h := ty_t h c9
      refine lv_iinc (v := (x2 + (1 : Int32))) (lv' := [(2, .int (x2 + (1 : Int32))), (0, .ref (q 0)), (3, .int x3)]) hx hb dX5_oneStep_240 hl (k := 1) rfl rfl (by decide) rfl (fun ls hl => ?_)
      refine lv_goto (tgt := 138) hx hb dX5_oneStep_243 (by decide) ?_
      exact hR138 _ _ _ _ _ h Y (lv_sub hl [1, 0] rfl)
    · have h := ty_f h c9
      refine lv_aload_n hx hb dX5_oneStep_153 rfl (lv_at hl 0 rfl) ?_
      refine tg_X5_from X Y iX5_oneStep_X5 kX5_oneStep_5 dX5_oneStep_154 ?_
      refine lv_iload_n hx hb dX5_oneStep_157 rfl (lv_at hl 2 rfl) ?_
      refine ty_iald (v := (S 45 x3.toNatClampNeg)) X Y 16 1280 45 rfl h.1 rfl dX5_oneStep_158 ?_
      have h := h.2
      refine lv_istore (lv' := [(4, .int (S 45 x3.toNatClampNeg)), (0, .ref (q 0)), (2, .int x2), (3, .int x3)]) hx hb dX5_oneStep_159 hl (by decide) rfl (fun ls hl => ?_)
      refine lv_aload_n hx hb dX5_oneStep_161 rfl (lv_at hl 1 rfl) ?_
      refine tg_X5_to X Y iX5_oneStep_X5 kX5_oneStep_6 dX5_oneStep_162 ?_
      refine lv_bipush (v := (12 : Int32)) hx hb dX5_oneStep_165 (by decide) ?_
      refine lv_iload hx hb dX5_oneStep_167 (lv_at hl 0 rfl) ?_
      refine lv_imul hx hb dX5_oneStep_169 ?_
      refine lv_aload_n hx hb dX5_oneStep_170 rfl (lv_at hl 1 rfl) ?_
      refine tg_X5_fromWhich X Y iX5_oneStep_X5 kX5_oneStep_7 dX5_oneStep_171 ?_
      refine lv_iload_n hx hb dX5_oneStep_174 rfl (lv_at hl 3 rfl) ?_
      refine ty_iald (v := (S 46 x3.toNatClampNeg)) X Y 17 1280 46 rfl h.1 rfl dX5_oneStep_175 ?_
      have h := h.2
      refine lv_iadd hx hb dX5_oneStep_176 ?_
      refine ty_iald (v := (S 35 (((12 : Int32) * (S 45 x3.toNatClampNeg)) + (S 46 x3.toNatClampNeg)).toNatClampNeg)) X Y 6 7680 35 rfl h.1 rfl dX5_oneStep_177 ?_
      have h := h.2
      refine lv_istore (lv' := [(5, .int (S 35 (((12 : Int32) * (S 45 x3.toNatClampNeg)) + (S 46 x3.toNatClampNeg)).toNatClampNeg)), (4, .int (S 45 x3.toNatClampNeg)), (0, .ref (q 0)), (2, .int x2), (3, .int x3)]) hx hb dX5_oneStep_178 hl (by decide) rfl (fun ls hl => ?_)
      refine lv_aload_n hx hb dX5_oneStep_180 rfl (lv_at hl 2 rfl) ?_
      refine tg_X5_fromFirst X Y iX5_oneStep_X5 kX5_oneStep_8 dX5_oneStep_181 ?_
      refine lv_iload_n hx hb dX5_oneStep_184 rfl (lv_at hl 4 rfl) ?_
      refine ty_zald (v := (S 47 x3.toNatClampNeg)) X Y 18 1280 47 rfl h.1 rfl dX5_oneStep_185 ?_
      have h := h.2
      refine lv_iload_n hx hb dX5_oneStep_186 rfl (lv_at hl 3 rfl) ?_
      refine lv_iconst (v := (1 : Int32)) hx hb dX5_oneStep_187 (by decide) ?_
      refine lv_icmp_ne (tgt := 195) hx hb dX5_oneStep_188 (by decide) (fun c9 => ?_) (fun c9 => ?_)
      · have h := ty_f h c9
        refine lv_iconst (v := (0 : Int32)) hx hb dX5_oneStep_195 (by decide) ?_
        exact wjX5_oneStep_196 X hR138 ih _ _ _ _ _ _ _ _ _ _ h Y (lv_sub hl [2, 3, 4, 1, 0] rfl)
      · have h := ty_t h c9
        refine lv_iconst (v := (1 : Int32)) hx hb dX5_oneStep_191 (by decide) ?_
        refine lv_goto (tgt := 196) hx hb dX5_oneStep_192 (by decide) ?_
        exact wjX5_oneStep_196 X hR138 ih _ _ _ _ _ _ _ _ _ _ h Y (lv_sub hl [2, 3, 4, 1, 0] rfl)
def lX5_oneStep_138 (K : ty_S → Int32 → Prop)  : Nat → Int32 → ty_S → Prop
  | 0, _, _ => False
  | n + 1, x2, S => (if (2 : Int32) ≤ x2 then (eX5_forget S (S 59 0) (fun S3 r3 => (vp_in (0 : Int32) 41 ∧ (vp_in (0 : Int32) 41 ∧ ∃ n9, lX5_oneStep_267 K  n9 r3 (0 : Int32) (ty_st S3 41 (0 : Int32).toNatClampNeg ((S3 41 (0 : Int32).toNatClampNeg) - (1 : Int32))))))) else ∃ n9, lX5_oneStep_145 K (fun a0 S9 => lX5_oneStep_138 K  n a0 S9) n9 x2 (0 : Int32) S)
set_option maxHeartbeats 4000000 in
set_option maxRecDepth 100000 in
theorem wlX5_oneStep_138 {p : Program} {l : Launch} {e : Env} {s : State} {m : MethodId} {args : Array Value} {below : List Frame} {meth : Method} {c : Code} {D : va_G} {cA : Nat → ClassId} {q : Nat → Nat} {K : ty_S → Int32 → Prop}  (X : ty_X D cA p s m args meth c cX5_oneStep 6 (some .int) wsX5_oneStep RX5)  : ∀ (n : Nat) (x2 : Int32) (S : ty_S) (H : Heap) (locs : List Loc) (ls : Array Slot), lX5_oneStep_138 K  n x2 S → ty_Y D cA q ty_LM S s H locs → lv_has ls 6 [(0, .ref (q 0)), (2, .int x2)] → W p l e rX5_oneStep s m args below meth c H locs 0 0 (ty_MI D cA q ty_LM K below args s) (F0 m 138 ls []) := by
  have hx := X.1.1
  have hb := X.1.2.1
  intro n
  induction n with
  | zero =>
    intro x2 S H locs ls h
    exact False.elim h
  | succ n ih =>
    intro x2 S H locs ls h Y hl
    unfold lX5_oneStep_138 at h
    refine lv_iload_n hx hb dX5_oneStep_138 rfl (lv_at hl 1 rfl) ?_
    refine lv_iconst (v := (2 : Int32)) hx hb dX5_oneStep_139 (by decide) ?_
    refine lv_icmp_ge (tgt := 246) hx hb dX5_oneStep_140 (by decide) (fun c9 => ?_) (fun c9 => ?_)
    · have h := ty_t h c9
      refine lv_aload_n hx hb dX5_oneStep_246 rfl (lv_at hl 0 rfl) ?_
      refine lv_aload_n hx hb dX5_oneStep_247 rfl (lv_at hl 0 rfl) ?_
      refine tg_X5_emptied (v := (S 59 0)) X Y iX5_oneStep_X5 kX5_oneStep_2 rfl dX5_oneStep_248 ?_
      refine ty_Vi (As := [.int (S 59 0)]) (b := 0) (rest := []) X Y (cX5_forget_C l D cA q S (S 59 0) _ h) rfl rfl (fun hts => cwV 1 hts gX5_oneStep_X5_forget rfl rfl rfl (by decide +kernel) ⟨Nat.le_of_ble_eq_true rfl, Nat.le_of_ble_eq_true rfl⟩) rfl hl.1 (Nat.le_of_ble_eq_true rfl) dX5_oneStep_251 ⟨Nat.zero_le _, Nat.zero_le _⟩ (fun r3 S3 H locs h Y => ?_)
      refine lv_istore_n (lv' := [(1, .int r3), (0, .ref (q 0)), (2, .int x2)]) hx hb dX5_oneStep_254 rfl hl (by decide) rfl (fun ls hl => ?_)
      refine lv_aload_n hx hb dX5_oneStep_255 rfl (lv_at hl 1 rfl) ?_
      refine tg_X5_trainSize X Y iX5_oneStep_X5 kX5_oneStep_3 dX5_oneStep_256 ?_
      refine lv_iconst (v := (0 : Int32)) hx hb dX5_oneStep_259 (by decide) ?_
      refine lv_dup2_11 hx hb dX5_oneStep_260 rfl rfl ?_
      refine ty_iald (v := (S3 41 (0 : Int32).toNatClampNeg)) X Y 12 41 41 rfl h.1 rfl dX5_oneStep_261 ?_
      have h := h.2
      refine lv_iconst (v := (1 : Int32)) hx hb dX5_oneStep_262 (by decide) ?_
      refine lv_isub hx hb dX5_oneStep_263 ?_
      refine ty_iast X Y 12 41 41 rfl (by decide) h.1 dX5_oneStep_264 (fun H locs Y => ?_)
      have h := h.2
      refine lv_iconst (v := (0 : Int32)) hx hb dX5_oneStep_265 (by decide) ?_
      refine lv_istore_n (lv' := [(2, .int (0 : Int32)), (1, .int r3), (0, .ref (q 0))]) hx hb dX5_oneStep_266 rfl hl (by decide) rfl (fun ls hl => ?_)
      obtain ⟨n9, h⟩ := h
      exact wlX5_oneStep_267 X  n9 _ _ _ _ _ _ h Y (lv_sub hl [2, 1, 0] rfl)
    · have h := ty_f h c9
      refine lv_iconst (v := (0 : Int32)) hx hb dX5_oneStep_143 (by decide) ?_
      refine lv_istore_n (lv' := [(3, .int (0 : Int32)), (0, .ref (q 0)), (2, .int x2)]) hx hb dX5_oneStep_144 rfl hl (by decide) rfl (fun ls hl => ?_)
      obtain ⟨n9, h⟩ := h
      exact wlX5_oneStep_145 X ih n9 _ _ _ _ _ _ h Y (lv_sub hl [1, 2, 0] rfl)
def jX5_oneStep_114 (K : ty_S → Int32 → Prop) (R83 : Int32 → ty_S → Prop) (x2 : Int32) (S : ty_S) : Prop :=
  (vp_in x2 16 ∧ (eX5_moveAll S (S 43 x2.toNatClampNeg) ((S 50 0) - (1 : Int32)) (fun S10 => R83 (x2 + (1 : Int32)) S10)))
set_option maxHeartbeats 4000000 in
set_option maxRecDepth 100000 in
theorem wjX5_oneStep_114 {p : Program} {l : Launch} {e : Env} {s : State} {m : MethodId} {args : Array Value} {below : List Frame} {meth : Method} {c : Code} {D : va_G} {cA : Nat → ClassId} {q : Nat → Nat} {K : ty_S → Int32 → Prop} {R83 : Int32 → ty_S → Prop} (X : ty_X D cA p s m args meth c cX5_oneStep 6 (some .int) wsX5_oneStep RX5) (hR83 : ∀ (x2 : Int32) (S : ty_S) (H : Heap) (locs : List Loc) (ls : Array Slot), R83 x2 S → ty_Y D cA q ty_LM S s H locs → lv_has ls 6 [(0, .ref (q 0)), (2, .int x2)] → W p l e rX5_oneStep s m args below meth c H locs 0 0 (ty_MI D cA q ty_LM K below args s) (F0 m 83 ls [])) (x2 : Int32) (S : ty_S) (H : Heap) (locs : List Loc) (ls : Array Slot) (h : jX5_oneStep_114 K R83 x2 S) (Y : ty_Y D cA q ty_LM S s H locs) (hl : lv_has ls 6 [(0, .ref (q 0)), (2, .int x2)]) : W p l e rX5_oneStep s m args below meth c H locs 0 0 (ty_MI D cA q ty_LM K below args s) (F0 m 114 ls []) := by
  have hx := X.1.1
  have hb := X.1.2.1
  unfold jX5_oneStep_114 at h
  refine lv_aload_n hx hb dX5_oneStep_114 rfl (lv_at hl 0 rfl) ?_
  refine lv_aload_n hx hb dX5_oneStep_115 rfl (lv_at hl 0 rfl) ?_
  refine tg_X5_register X Y iX5_oneStep_X5 kX5_oneStep_10 dX5_oneStep_116 ?_
  refine lv_iload_n hx hb dX5_oneStep_119 rfl (lv_at hl 1 rfl) ?_
  refine ty_iald (v := (S 43 x2.toNatClampNeg)) X Y 14 16 43 rfl h.1 rfl dX5_oneStep_120 ?_
  have h := h.2
  refine lv_aload_n hx hb dX5_oneStep_121 rfl (lv_at hl 0 rfl) ?_
  refine tg_X5_trains (v := (S 50 0)) X Y iX5_oneStep_X5 kX5_oneStep_11 rfl dX5_oneStep_122 ?_
  refine lv_iconst (v := (1 : Int32)) hx hb dX5_oneStep_125 (by decide) ?_
  refine lv_isub hx hb dX5_oneStep_126 ?_
  refine ty_Vv (As := [.int (S 43 x2.toNatClampNeg), .int ((S 50 0) - (1 : Int32))]) (b := 0) (rest := []) X Y (cX5_moveAll_C l D cA q S (S 43 x2.toNatClampNeg) ((S 50 0) - (1 : Int32)) _ h) rfl rfl (fun hts => cwV 2 hts gX5_oneStep_X5_moveAll rfl rfl rfl (by decide +kernel) ⟨Nat.le_of_ble_eq_true rfl, Nat.le_of_ble_eq_true rfl⟩) rfl hl.1 (Nat.le_of_ble_eq_true rfl) dX5_oneStep_127 ⟨Nat.zero_le _, Nat.zero_le _⟩ (fun S10 H locs h Y => ?_)
  refine lv_iinc (v := (x2 + (1 : Int32))) (lv' := [(2, .int (x2 + (1 : Int32))), (0, .ref (q 0))]) hx hb dX5_oneStep_130 hl (k := 1) rfl rfl (by decide) rfl (fun ls hl => ?_)
  refine lv_goto (tgt := 83) hx hb dX5_oneStep_133 (by decide) ?_
  exact hR83 _ _ _ _ _ h Y (lv_sub hl [1, 0] rfl)
def lX5_oneStep_83 (K : ty_S → Int32 → Prop)  : Nat → Int32 → ty_S → Prop
  | 0, _, _ => False
  | n + 1, x2, S => (if (16 : Int32) ≤ x2 then ∃ n9, lX5_oneStep_138 K  n9 (0 : Int32) S else (vp_in x2 16 ∧ (eX5_isInCar S (S 43 x2.toNatClampNeg) (fun S9 r9 => (if r9 = (0 : Int32) then lX5_oneStep_83 K  n (x2 + (1 : Int32)) S9 else (if (S9 50 0) = (1 : Int32) then (eX5_newTrain S9  (fun S11 => jX5_oneStep_114 K (fun a0 S9 => lX5_oneStep_83 K  n a0 S9) x2 S11)) else jX5_oneStep_114 K (fun a0 S9 => lX5_oneStep_83 K  n a0 S9) x2 S9))))))
set_option maxHeartbeats 4000000 in
set_option maxRecDepth 100000 in
theorem wlX5_oneStep_83 {p : Program} {l : Launch} {e : Env} {s : State} {m : MethodId} {args : Array Value} {below : List Frame} {meth : Method} {c : Code} {D : va_G} {cA : Nat → ClassId} {q : Nat → Nat} {K : ty_S → Int32 → Prop}  (X : ty_X D cA p s m args meth c cX5_oneStep 6 (some .int) wsX5_oneStep RX5)  : ∀ (n : Nat) (x2 : Int32) (S : ty_S) (H : Heap) (locs : List Loc) (ls : Array Slot), lX5_oneStep_83 K  n x2 S → ty_Y D cA q ty_LM S s H locs → lv_has ls 6 [(0, .ref (q 0)), (2, .int x2)] → W p l e rX5_oneStep s m args below meth c H locs 0 0 (ty_MI D cA q ty_LM K below args s) (F0 m 83 ls []) := by
  have hx := X.1.1
  have hb := X.1.2.1
  intro n
  induction n with
  | zero =>
    intro x2 S H locs ls h
    exact False.elim h
  | succ n ih =>
    intro x2 S H locs ls h Y hl
    unfold lX5_oneStep_83 at h
    refine lv_iload_n hx hb dX5_oneStep_83 rfl (lv_at hl 1 rfl) ?_
    refine lv_bipush (v := (16 : Int32)) hx hb dX5_oneStep_84 (by decide) ?_
    refine lv_icmp_ge (tgt := 136) hx hb dX5_oneStep_86 (by decide) (fun c9 => ?_) (fun c9 => ?_)
    · have h := ty_t h c9
      refine lv_iconst (v := (0 : Int32)) hx hb dX5_oneStep_136 (by decide) ?_
      refine lv_istore_n (lv' := [(2, .int (0 : Int32)), (0, .ref (q 0))]) hx hb dX5_oneStep_137 rfl hl (by decide) rfl (fun ls hl => ?_)
      obtain ⟨n9, h⟩ := h
      exact wlX5_oneStep_138 X  n9 _ _ _ _ _ h Y (lv_sub hl [1, 0] rfl)
    · have h := ty_f h c9
      refine lv_aload_n hx hb dX5_oneStep_89 rfl (lv_at hl 0 rfl) ?_
      refine lv_aload_n hx hb dX5_oneStep_90 rfl (lv_at hl 0 rfl) ?_
      refine tg_X5_register X Y iX5_oneStep_X5 kX5_oneStep_10 dX5_oneStep_91 ?_
      refine lv_iload_n hx hb dX5_oneStep_94 rfl (lv_at hl 1 rfl) ?_
      refine ty_iald (v := (S 43 x2.toNatClampNeg)) X Y 14 16 43 rfl h.1 rfl dX5_oneStep_95 ?_
      have h := h.2
      refine ty_Vi (As := [.int (S 43 x2.toNatClampNeg)]) (b := 0) (rest := []) X Y (cX5_isInCar_C l D cA q S (S 43 x2.toNatClampNeg) _ h) rfl rfl (fun hts => cwV 1 hts gX5_oneStep_X5_isInCar rfl rfl rfl (by decide +kernel) ⟨Nat.le_of_ble_eq_true rfl, Nat.le_of_ble_eq_true rfl⟩) rfl hl.1 (Nat.le_of_ble_eq_true rfl) dX5_oneStep_96 ⟨Nat.zero_le _, Nat.zero_le _⟩ (fun r9 S9 H locs h Y => ?_)
      refine lv_if_eq (tgt := 130) hx hb dX5_oneStep_99 (by decide) (fun c9 => ?_) (fun c9 => ?_)
      · have h := ty_t h c9
        refine lv_iinc (v := (x2 + (1 : Int32))) (lv' := [(2, .int (x2 + (1 : Int32))), (0, .ref (q 0))]) hx hb dX5_oneStep_130 hl (k := 1) rfl rfl (by decide) rfl (fun ls hl => ?_)
        refine lv_goto (tgt := 83) hx hb dX5_oneStep_133 (by decide) ?_
        exact ih _ _ _ _ _ h Y (lv_sub hl [1, 0] rfl)
      · have h := ty_f h c9
        refine lv_aload_n hx hb dX5_oneStep_102 rfl (lv_at hl 0 rfl) ?_
        refine tg_X5_trains (v := (S9 50 0)) X Y iX5_oneStep_X5 kX5_oneStep_11 rfl dX5_oneStep_103 ?_
        refine lv_iconst (v := (1 : Int32)) hx hb dX5_oneStep_106 (by decide) ?_
        refine lv_icmp_ne (tgt := 114) hx hb dX5_oneStep_107 (by decide) (fun c9 => ?_) (fun c9 => ?_)
        · have h := ty_f h c9
          exact wjX5_oneStep_114 X ih _ _ _ _ _ h Y (lv_sub hl [0, 1] rfl)
        · have h := ty_t h c9
          refine lv_aload_n hx hb dX5_oneStep_110 rfl (lv_at hl 0 rfl) ?_
          refine ty_Vv (As := []) (b := 0) (rest := []) X Y (cX5_newTrain_C l D cA q S9  _ h) rfl rfl (fun hts => cwV 0 hts gX5_oneStep_X5_newTrain rfl rfl rfl (by decide +kernel) ⟨Nat.le_of_ble_eq_true rfl, Nat.le_of_ble_eq_true rfl⟩) rfl hl.1 (Nat.le_of_ble_eq_true rfl) dX5_oneStep_111 ⟨Nat.zero_le _, Nat.zero_le _⟩ (fun S11 H locs h Y => ?_)
          exact wjX5_oneStep_114 X ih _ _ _ _ _ h Y (lv_sub hl [0, 1] rfl)
def lX5_oneStep_21 (K : ty_S → Int32 → Prop)  : Nat → Int32 → Int32 → ty_S → Prop
  | 0, _, _, _ => False
  | n + 1, x1, x2, S => (vp_in (0 : Int32) 41 ∧ (if (S 41 (0 : Int32).toNatClampNeg) ≤ x2 then (eX5_removeTrain (ty_st S 53 0 ((S 53 0) + (1 : Int32))) (0 : Int32) (fun S12 => K S12 x1)) else (vp_in x2 1640 ∧ (eX5_forget S (S 42 x2.toNatClampNeg) (fun S13 r13 => lX5_oneStep_21 K  n (x1 + r13) (x2 + (1 : Int32)) S13)))))
set_option maxHeartbeats 4000000 in
set_option maxRecDepth 100000 in
theorem wlX5_oneStep_21 {p : Program} {l : Launch} {e : Env} {s : State} {m : MethodId} {args : Array Value} {below : List Frame} {meth : Method} {c : Code} {D : va_G} {cA : Nat → ClassId} {q : Nat → Nat} {K : ty_S → Int32 → Prop}  (X : ty_X D cA p s m args meth c cX5_oneStep 6 (some .int) wsX5_oneStep RX5)  : ∀ (n : Nat) (x1 : Int32) (x2 : Int32) (S : ty_S) (H : Heap) (locs : List Loc) (ls : Array Slot), lX5_oneStep_21 K  n x1 x2 S → ty_Y D cA q ty_LM S s H locs → lv_has ls 6 [(0, .ref (q 0)), (1, .int x1), (2, .int x2)] → W p l e rX5_oneStep s m args below meth c H locs 0 0 (ty_MI D cA q ty_LM K below args s) (F0 m 21 ls []) := by
  have hx := X.1.1
  have hb := X.1.2.1
  intro n
  induction n with
  | zero =>
    intro x1 x2 S H locs ls h
    exact False.elim h
  | succ n ih =>
    intro x1 x2 S H locs ls h Y hl
    unfold lX5_oneStep_21 at h
    refine lv_iload_n hx hb dX5_oneStep_21 rfl (lv_at hl 2 rfl) ?_
    refine lv_aload_n hx hb dX5_oneStep_22 rfl (lv_at hl 0 rfl) ?_
    refine tg_X5_trainSize X Y iX5_oneStep_X5 kX5_oneStep_3 dX5_oneStep_23 ?_
    refine lv_iconst (v := (0 : Int32)) hx hb dX5_oneStep_26 (by decide) ?_
    refine ty_iald (v := (S 41 (0 : Int32).toNatClampNeg)) X Y 12 41 41 rfl h.1 rfl dX5_oneStep_27 ?_
    have h := h.2
    refine lv_icmp_ge (tgt := 50) hx hb dX5_oneStep_28 (by decide) (fun c9 => ?_) (fun c9 => ?_)
    · have h := ty_t h c9
      refine lv_aload_n hx hb dX5_oneStep_50 rfl (lv_at hl 0 rfl) ?_
      refine lv_dup hx hb dX5_oneStep_51 rfl ?_
      refine tg_X5_whole (v := (S 53 0)) X Y iX5_oneStep_X5 kX5_oneStep_12 rfl dX5_oneStep_52 ?_
      refine lv_iconst (v := (1 : Int32)) hx hb dX5_oneStep_55 (by decide) ?_
      refine lv_iadd hx hb dX5_oneStep_56 ?_
      refine tp_X5_whole X Y iX5_oneStep_X5 kX5_oneStep_12 dX5_oneStep_57 (fun H locs Y => ?_)
      refine lv_aload_n hx hb dX5_oneStep_60 rfl (lv_at hl 0 rfl) ?_
      refine lv_iconst (v := (0 : Int32)) hx hb dX5_oneStep_61 (by decide) ?_
      refine ty_Vv (As := [.int (0 : Int32)]) (b := 0) (rest := []) X Y (cX5_removeTrain_C l D cA q (ty_st S 53 0 ((S 53 0) + (1 : Int32))) (0 : Int32) _ h) rfl rfl (fun hts => cwV 1 hts gX5_oneStep_X5_removeTrain rfl rfl rfl (by decide +kernel) ⟨Nat.le_of_ble_eq_true rfl, Nat.le_of_ble_eq_true rfl⟩) rfl hl.1 (Nat.le_of_ble_eq_true rfl) dX5_oneStep_62 ⟨Nat.zero_le _, Nat.zero_le _⟩ (fun S12 H locs h Y => ?_)
      refine lv_iload_n hx hb dX5_oneStep_65 rfl (lv_at hl 1 rfl) ?_
      exact ty_iret X Y h dX5_oneStep_66
    · have h := ty_f h c9
      refine lv_iload_n hx hb dX5_oneStep_31 rfl (lv_at hl 1 rfl) ?_
      refine lv_aload_n hx hb dX5_oneStep_32 rfl (lv_at hl 0 rfl) ?_
      refine lv_aload_n hx hb dX5_oneStep_33 rfl (lv_at hl 0 rfl) ?_
      refine tg_X5_trainCar X Y iX5_oneStep_X5 kX5_oneStep_1 dX5_oneStep_34 ?_
      refine lv_iload_n hx hb dX5_oneStep_37 rfl (lv_at hl 2 rfl) ?_
      refine ty_iald (v := (S 42 x2.toNatClampNeg)) X Y 13 1640 42 rfl h.1 rfl dX5_oneStep_38 ?_
      have h := h.2
      refine ty_Vi (As := [.int (S 42 x2.toNatClampNeg)]) (b := 0) (rest := [.int x1]) X Y (cX5_forget_C l D cA q S (S 42 x2.toNatClampNeg) _ h) rfl rfl (fun hts => cwV 1 hts gX5_oneStep_X5_forget rfl rfl rfl (by decide +kernel) ⟨Nat.le_of_ble_eq_true rfl, Nat.le_of_ble_eq_true rfl⟩) rfl hl.1 (Nat.le_of_ble_eq_true rfl) dX5_oneStep_39 ⟨Nat.zero_le _, Nat.zero_le _⟩ (fun r13 S13 H locs h Y => ?_)
      refine lv_iadd hx hb dX5_oneStep_42 ?_
      refine lv_istore_n (lv' := [(1, .int (x1 + r13)), (0, .ref (q 0)), (2, .int x2)]) hx hb dX5_oneStep_43 rfl hl (by decide) rfl (fun ls hl => ?_)
      refine lv_iinc (v := (x2 + (1 : Int32))) (lv' := [(2, .int (x2 + (1 : Int32))), (1, .int (x1 + r13)), (0, .ref (q 0))]) hx hb dX5_oneStep_44 hl (k := 2) rfl rfl (by decide) rfl (fun ls hl => ?_)
      refine lv_goto (tgt := 21) hx hb dX5_oneStep_47 (by decide) ?_
      exact ih _ _ _ _ _ _ h Y (lv_sub hl [2, 1, 0] rfl)
def eX5_oneStep (S : ty_S)  (K : ty_S → Int32 → Prop) : Prop :=
  (eX5_isWanted (ty_st S 52 0 ((S 52 0) + (1 : Int32)))  (fun S1 r1 => (if r1 = (0 : Int32) then ∃ n9, lX5_oneStep_21 K  n9 (0 : Int32) (0 : Int32) S1 else (vp_in (0 : Int32) 1640 ∧ (eX5_gather (ty_st S1 59 0 (S1 42 (0 : Int32).toNatClampNeg))  (fun S2 => ∃ n9, lX5_oneStep_83 K  n9 (0 : Int32) S2))))))
set_option maxHeartbeats 4000000 in
set_option maxRecDepth 100000 in
theorem cX5_oneStep_C (l : Launch) (D : va_G) (cA : Nat → ClassId) (q : Nat → Nat) (S : ty_S)  (K : ty_S → Int32 → Prop) (h : eX5_oneStep S  K) : ∀ sz, Met l yX5_oneStep wsX5_oneStep rX5_oneStep (ty_Pc D cA q ty_LM S sz [.ref (q 0)]) (ty_Qi D cA q ty_LM sz K) 0 0 (ty_A q ty_LM.length sz) := by
  refine ty_ofM (ret := (some .int)) (maxL := 6) (cc := cX5_oneStep) (own := RX5) (Qc := fun sz => ty_Qi D cA q ty_LM sz K) (by decide +kernel) rfl (Nat.le_of_ble_eq_true rfl) rfl ?_
  intro p e s m args below meth c ls X hl Y
  have hx := X.1.1
  have hb := X.1.2.1
  have hl : lv_has ls 6 [(0, .ref (q 0))] := hl
  unfold eX5_oneStep at h
  refine lv_aload_n hx hb dX5_oneStep_0 rfl (lv_at hl 0 rfl) ?_
  refine lv_dup hx hb dX5_oneStep_1 rfl ?_
  refine tg_X5_steps (v := (S 52 0)) X Y iX5_oneStep_X5 kX5_oneStep_0 rfl dX5_oneStep_2 ?_
  refine lv_iconst (v := (1 : Int32)) hx hb dX5_oneStep_5 (by decide) ?_
  refine lv_iadd hx hb dX5_oneStep_6 ?_
  refine tp_X5_steps X Y iX5_oneStep_X5 kX5_oneStep_0 dX5_oneStep_7 (fun H locs Y => ?_)
  refine lv_iconst (v := (0 : Int32)) hx hb dX5_oneStep_10 (by decide) ?_
  refine lv_istore_n (lv' := [(1, .int (0 : Int32)), (0, .ref (q 0))]) hx hb dX5_oneStep_11 rfl hl (by decide) rfl (fun ls hl => ?_)
  refine lv_aload_n hx hb dX5_oneStep_12 rfl (lv_at hl 1 rfl) ?_
  refine ty_Vi (As := []) (b := 0) (rest := []) X Y (cX5_isWanted_C l D cA q (ty_st S 52 0 ((S 52 0) + (1 : Int32)))  _ h) rfl rfl (fun hts => cwV 0 hts gX5_oneStep_X5_isWanted rfl rfl rfl (by decide +kernel) ⟨Nat.le_of_ble_eq_true rfl, Nat.le_of_ble_eq_true rfl⟩) rfl hl.1 (Nat.le_of_ble_eq_true rfl) dX5_oneStep_13 ⟨Nat.zero_le _, Nat.zero_le _⟩ (fun r1 S1 H locs h Y => ?_)
  refine lv_if_ne (tgt := 67) hx hb dX5_oneStep_16 (by decide) (fun c9 => ?_) (fun c9 => ?_)
  · have h := ty_f h c9
    refine lv_aload_n hx hb dX5_oneStep_67 rfl (lv_at hl 1 rfl) ?_
    refine lv_aload_n hx hb dX5_oneStep_68 rfl (lv_at hl 1 rfl) ?_
    refine tg_X5_trainCar X Y iX5_oneStep_X5 kX5_oneStep_1 dX5_oneStep_69 ?_
    refine lv_iconst (v := (0 : Int32)) hx hb dX5_oneStep_72 (by decide) ?_
    refine ty_iald (v := (S1 42 (0 : Int32).toNatClampNeg)) X Y 13 1640 42 rfl h.1 rfl dX5_oneStep_73 ?_
    have h := h.2
    refine tp_X5_emptied X Y iX5_oneStep_X5 kX5_oneStep_2 dX5_oneStep_74 (fun H locs Y => ?_)
    refine lv_aload_n hx hb dX5_oneStep_77 rfl (lv_at hl 1 rfl) ?_
    refine ty_Vv (As := []) (b := 0) (rest := []) X Y (cX5_gather_C l D cA q (ty_st S1 59 0 (S1 42 (0 : Int32).toNatClampNeg))  _ h) rfl rfl (fun hts => cwV 0 hts gX5_oneStep_X5_gather rfl rfl rfl (by decide +kernel) ⟨Nat.le_of_ble_eq_true rfl, Nat.le_of_ble_eq_true rfl⟩) rfl hl.1 (Nat.le_of_ble_eq_true rfl) dX5_oneStep_78 ⟨Nat.zero_le _, Nat.zero_le _⟩ (fun S2 H locs h Y => ?_)
    refine lv_iconst (v := (0 : Int32)) hx hb dX5_oneStep_81 (by decide) ?_
    refine lv_istore_n (lv' := [(2, .int (0 : Int32)), (1, .int (0 : Int32)), (0, .ref (q 0))]) hx hb dX5_oneStep_82 rfl hl (by decide) rfl (fun ls hl => ?_)
    obtain ⟨n9, h⟩ := h
    exact wlX5_oneStep_83 X  n9 _ _ _ _ _ h Y (lv_sub hl [2, 0] rfl)
  · have h := ty_t h c9
    refine lv_iconst (v := (0 : Int32)) hx hb dX5_oneStep_19 (by decide) ?_
    refine lv_istore_n (lv' := [(2, .int (0 : Int32)), (1, .int (0 : Int32)), (0, .ref (q 0))]) hx hb dX5_oneStep_20 rfl hl (by decide) rfl (fun ls hl => ?_)
    obtain ⟨n9, h⟩ := h
    exact wlX5_oneStep_21 X  n9 _ _ _ _ _ _ h Y (lv_sub hl [2, 1, 0] rfl)
