abbrev rX5_maySteps : Room := { frames := 1, cells := 0, slots := 0, locals := 22 }
theorem kX5_maySteps_0 : Cond.fieldLink RX5 78 "TrainYardModel" "trains" "I" ∈ wsX5_maySteps := ty_m 1 (by decide +kernel)
theorem iX5_maySteps_X5 : ∀ w ∈ wsX50, w ∈ wsX5_maySteps := ty_inp _ [8, 9, 10, 11, 12, 13, 14, 15, 16, 17, 18, 19, 20, 21, 22, 23, 24, 25, 26, 27, 28, 29, 30, 31, 32, 33, 34, 35, 36, 37, 38] (by decide +kernel)
def eX5_maySteps (S : ty_S)  (K : ty_S → Int32 → Prop) : Prop :=
  (if (S 50 0) ≤ (0 : Int32) then K S (0 : Int32) else (eX5_freeCars S  (fun S1 r1 => (if r1 ≤ (0 : Int32) then K S1 (0 : Int32) else K S1 (1 : Int32)))))
set_option maxHeartbeats 4000000 in
set_option maxRecDepth 100000 in
theorem cX5_maySteps_C (l : Launch) (D : va_G) (cA : Nat → ClassId) (q : Nat → Nat) (S : ty_S)  (K : ty_S → Int32 → Prop) (h : eX5_maySteps S  K) : ∀ sz, Met l yX5_maySteps wsX5_maySteps rX5_maySteps (ty_Pc D cA q ty_LM S sz [.ref (q 0)]) (ty_Qi D cA q ty_LM sz K) 0 0 (ty_A q ty_LM.length sz) := by
  refine ty_ofM (ret := (some .boolean)) (maxL := 1) (cc := cX5_maySteps) (own := RX5) (Qc := fun sz => ty_Qi D cA q ty_LM sz K) (by decide +kernel) rfl (Nat.le_of_ble_eq_true rfl) rfl ?_
  intro p e s m args below meth c ls X hl Y
  have hx := X.1.1
  have hb := X.1.2.1
  have hl : lv_has ls 1 [(0, .ref (q 0))] := hl
  unfold eX5_maySteps at h
  refine lv_aload_n hx hb dX5_maySteps_0 rfl (lv_at hl 0 rfl) ?_
  refine tg_X5_trains (v := (S 50 0)) X Y iX5_maySteps_X5 kX5_maySteps_0 rfl dX5_maySteps_1 ?_
  refine lv_if_le (tgt := 18) hx hb dX5_maySteps_4 (by decide) (fun c9 => ?_) (fun c9 => ?_)
  · have h := ty_t h c9
    refine lv_iconst (v := (0 : Int32)) hx hb dX5_maySteps_18 (by decide) ?_
    exact ty_zret X Y h rfl dX5_maySteps_19
  · have h := ty_f h c9
    refine lv_aload_n hx hb dX5_maySteps_7 rfl (lv_at hl 0 rfl) ?_
    refine ty_Vi (As := []) (b := 0) (rest := []) X Y (cX5_freeCars_C l D cA q S  _ h) rfl rfl (fun hts => cwV 0 hts gX5_maySteps_X5_freeCars rfl rfl rfl (by decide +kernel) ⟨Nat.le_of_ble_eq_true rfl, Nat.le_of_ble_eq_true rfl⟩) rfl hl.1 (Nat.le_of_ble_eq_true rfl) dX5_maySteps_8 ⟨Nat.zero_le _, Nat.zero_le _⟩ (fun r1 S1 H locs h Y => ?_)
    refine lv_if_le (tgt := 18) hx hb dX5_maySteps_11 (by decide) (fun c9 => ?_) (fun c9 => ?_)
    · have h := ty_t h c9
      refine lv_iconst (v := (0 : Int32)) hx hb dX5_maySteps_18 (by decide) ?_
      exact ty_zret X Y h rfl dX5_maySteps_19
    · have h := ty_f h c9
      refine lv_iconst (v := (1 : Int32)) hx hb dX5_maySteps_14 (by decide) ?_
      refine lv_goto (tgt := 19) hx hb dX5_maySteps_15 (by decide) ?_
      exact ty_zret X Y h rfl dX5_maySteps_19

abbrev rX5_step : Room := { frames := 6, cells := 0, slots := 0, locals := 147 }
theorem kX5_step_0 : Cond.fieldLink RX5 75 "TrainYardModel" "thrown" "I" ∈ wsX5_step := ty_m 1 (by decide +kernel)
theorem iX5_step_X5 : ∀ w ∈ wsX50, w ∈ wsX5_step := ty_inp _ [105, 106, 107, 108, 109, 110, 111, 112, 113, 114, 115, 116, 117, 118, 119, 120, 121, 122, 123, 124, 125, 126, 127, 128, 129, 130, 131, 132, 133, 134, 135] (by decide +kernel)
def eX5_step (S : ty_S)  (K : ty_S → Int32 → Prop) : Prop :=
  (eX5_maySteps (ty_st S 60 0 (0 : Int32))  (fun S1 r1 => (if r1 = (0 : Int32) then K S1 (-1 : Int32) else (eX5_oneStep S1  (fun S2 r2 => K S2 r2)))))
set_option maxHeartbeats 4000000 in
set_option maxRecDepth 100000 in
theorem cX5_step_C (l : Launch) (D : va_G) (cA : Nat → ClassId) (q : Nat → Nat) (S : ty_S)  (K : ty_S → Int32 → Prop) (h : eX5_step S  K) : ∀ sz, Met l yX5_step wsX5_step rX5_step (ty_Pc D cA q ty_LM S sz [.ref (q 0)]) (ty_Qi D cA q ty_LM sz K) 0 0 (ty_A q ty_LM.length sz) := by
  refine ty_ofM (ret := (some .int)) (maxL := 1) (cc := cX5_step) (own := RX5) (Qc := fun sz => ty_Qi D cA q ty_LM sz K) (by decide +kernel) rfl (Nat.le_of_ble_eq_true rfl) rfl ?_
  intro p e s m args below meth c ls X hl Y
  have hx := X.1.1
  have hb := X.1.2.1
  have hl : lv_has ls 1 [(0, .ref (q 0))] := hl
  unfold eX5_step at h
  refine lv_aload_n hx hb dX5_step_0 rfl (lv_at hl 0 rfl) ?_
  refine lv_iconst (v := (0 : Int32)) hx hb dX5_step_1 (by decide) ?_
  refine tp_X5_thrown X Y iX5_step_X5 kX5_step_0 dX5_step_2 (fun H locs Y => ?_)
  refine lv_aload_n hx hb dX5_step_5 rfl (lv_at hl 0 rfl) ?_
  refine ty_Vi (As := []) (b := 0) (rest := []) X Y (cX5_maySteps_C l D cA q (ty_st S 60 0 (0 : Int32))  _ h) rfl rfl (fun hts => cwV 0 hts gX5_step_X5_maySteps rfl rfl rfl (by decide +kernel) ⟨Nat.le_of_ble_eq_true rfl, Nat.le_of_ble_eq_true rfl⟩) rfl hl.1 (Nat.le_of_ble_eq_true rfl) dX5_step_6 ⟨Nat.zero_le _, Nat.zero_le _⟩ (fun r1 S1 H locs h Y => ?_)
  refine lv_if_eq (tgt := 19) hx hb dX5_step_9 (by decide) (fun c9 => ?_) (fun c9 => ?_)
  · have h := ty_t h c9
    refine lv_iconst (v := (-1 : Int32)) hx hb dX5_step_19 (by decide) ?_
    exact ty_iret X Y h dX5_step_20
  · have h := ty_f h c9
    refine lv_aload_n hx hb dX5_step_12 rfl (lv_at hl 0 rfl) ?_
    refine ty_Vi (As := []) (b := 0) (rest := []) X Y (cX5_oneStep_C l D cA q S1  _ h) rfl rfl (fun hts => cwV 0 hts gX5_step_X5_oneStep rfl rfl rfl (by decide +kernel) ⟨Nat.le_of_ble_eq_true rfl, Nat.le_of_ble_eq_true rfl⟩) rfl hl.1 (Nat.le_of_ble_eq_true rfl) dX5_step_13 ⟨Nat.zero_le _, Nat.zero_le _⟩ (fun r2 S2 H locs h Y => ?_)
    refine lv_goto (tgt := 20) hx hb dX5_step_16 (by decide) ?_
    exact ty_iret X Y h dX5_step_20

abbrev rX5_collect : Room := { frames := 6, cells := 0, slots := 0, locals := 147 }
theorem kX5_collect_0 : Cond.fieldLink RX5 75 "TrainYardModel" "thrown" "I" ∈ wsX5_collect := ty_m 1 (by decide +kernel)
theorem iX5_collect_X5 : ∀ w ∈ wsX50, w ∈ wsX5_collect := ty_inp _ [105, 106, 107, 108, 109, 110, 111, 112, 113, 114, 115, 116, 117, 118, 119, 120, 121, 122, 123, 124, 125, 126, 127, 128, 129, 130, 131, 132, 133, 134, 135] (by decide +kernel)
def lX5_collect_49 (K : ty_S → Int32 → Prop)  : Nat → Int32 → Int32 → Int32 → ty_S → Prop
  | 0, _, _, _, _ => False
  | n + 1, x2, x3, x4, S => (if x2 ≤ x4 then K S x3 else (eX5_maySteps S  (fun S1 r1 => (if r1 = (0 : Int32) then K S1 x3 else (eX5_oneStep S1  (fun S2 r2 => lX5_collect_49 K  n x2 (x3 + r2) (x4 + (1 : Int32)) S2))))))
set_option maxHeartbeats 4000000 in
set_option maxRecDepth 100000 in
theorem wlX5_collect_49 {p : Program} {l : Launch} {e : Env} {s : State} {m : MethodId} {args : Array Value} {below : List Frame} {meth : Method} {c : Code} {D : va_G} {cA : Nat → ClassId} {q : Nat → Nat} {K : ty_S → Int32 → Prop}  (X : ty_X D cA p s m args meth c cX5_collect 5 (some .int) wsX5_collect RX5)  : ∀ (n : Nat) (x2 : Int32) (x3 : Int32) (x4 : Int32) (S : ty_S) (H : Heap) (locs : List Loc) (ls : Array Slot), lX5_collect_49 K  n x2 x3 x4 S → ty_Y D cA q ty_LM S s H locs → lv_has ls 5 [(0, .ref (q 0)), (2, .int x2), (3, .int x3), (4, .int x4)] → W p l e rX5_collect s m args below meth c H locs 0 0 (ty_MI D cA q ty_LM K below args s) (F0 m 49 ls []) := by
  have hx := X.1.1
  have hb := X.1.2.1
  intro n
  induction n with
  | zero =>
    intro x2 x3 x4 S H locs ls h
    exact False.elim h
  | succ n ih =>
    intro x2 x3 x4 S H locs ls h Y hl
    unfold lX5_collect_49 at h
    refine lv_iload hx hb dX5_collect_49 (lv_at hl 3 rfl) ?_
    refine lv_iload_n hx hb dX5_collect_51 rfl (lv_at hl 1 rfl) ?_
    refine lv_icmp_ge (tgt := 75) hx hb dX5_collect_52 (by decide) (fun c9 => ?_) (fun c9 => ?_)
    · have h := ty_t h c9
      refine lv_iload_n hx hb dX5_collect_75 rfl (lv_at hl 2 rfl) ?_
      exact ty_iret X Y h dX5_collect_76
    · have h := ty_f h c9
      refine lv_aload_n hx hb dX5_collect_55 rfl (lv_at hl 0 rfl) ?_
      refine ty_Vi (As := []) (b := 0) (rest := []) X Y (cX5_maySteps_C l D cA q S  _ h) rfl rfl (fun hts => cwV 0 hts gX5_collect_X5_maySteps rfl rfl rfl (by decide +kernel) ⟨Nat.le_of_ble_eq_true rfl, Nat.le_of_ble_eq_true rfl⟩) rfl hl.1 (Nat.le_of_ble_eq_true rfl) dX5_collect_56 ⟨Nat.zero_le _, Nat.zero_le _⟩ (fun r1 S1 H locs h Y => ?_)
      refine lv_if_eq (tgt := 75) hx hb dX5_collect_59 (by decide) (fun c9 => ?_) (fun c9 => ?_)
      · have h := ty_t h c9
        refine lv_iload_n hx hb dX5_collect_75 rfl (lv_at hl 2 rfl) ?_
        exact ty_iret X Y h dX5_collect_76
      · have h := ty_f h c9
        refine lv_iload_n hx hb dX5_collect_62 rfl (lv_at hl 2 rfl) ?_
        refine lv_aload_n hx hb dX5_collect_63 rfl (lv_at hl 0 rfl) ?_
        refine ty_Vi (As := []) (b := 0) (rest := [.int x3]) X Y (cX5_oneStep_C l D cA q S1  _ h) rfl rfl (fun hts => cwV 0 hts gX5_collect_X5_oneStep rfl rfl rfl (by decide +kernel) ⟨Nat.le_of_ble_eq_true rfl, Nat.le_of_ble_eq_true rfl⟩) rfl hl.1 (Nat.le_of_ble_eq_true rfl) dX5_collect_64 ⟨Nat.zero_le _, Nat.zero_le _⟩ (fun r2 S2 H locs h Y => ?_)
        refine lv_iadd hx hb dX5_collect_67 ?_
        refine lv_istore_n (lv' := [(3, .int (x3 + r2)), (0, .ref (q 0)), (2, .int x2), (4, .int x4)]) hx hb dX5_collect_68 rfl hl (by decide) rfl (fun ls hl => ?_)
        refine lv_iinc (v := (x4 + (1 : Int32))) (lv' := [(4, .int (x4 + (1 : Int32))), (3, .int (x3 + r2)), (0, .ref (q 0)), (2, .int x2)]) hx hb dX5_collect_69 hl (k := 3) rfl rfl (by decide) rfl (fun ls hl => ?_)
        refine lv_goto (tgt := 49) hx hb dX5_collect_72 (by decide) ?_
        exact ih _ _ _ _ _ _ _ h Y (lv_sub hl [2, 3, 1, 0] rfl)
def jX5_collect_16 (K : ty_S → Int32 → Prop)  (x1 : Int32) (t0 : Int32) (S : ty_S) : Prop :=
  (if t0 ≤ (0 : Int32) then (if x1 = (0 : Int32) then (eX5_freeCars (ty_st S 60 0 t0)  (fun S3 r3 => ∃ n9, lX5_collect_49 K  n9 ((40 : Int32) - r3) (0 : Int32) (0 : Int32) S3)) else ∃ n9, lX5_collect_49 K  n9 x1 (0 : Int32) (0 : Int32) (ty_st S 60 0 t0)) else K (ty_st S 60 0 t0) (0 : Int32))
set_option maxHeartbeats 4000000 in
set_option maxRecDepth 100000 in
theorem wjX5_collect_16 {p : Program} {l : Launch} {e : Env} {s : State} {m : MethodId} {args : Array Value} {below : List Frame} {meth : Method} {c : Code} {D : va_G} {cA : Nat → ClassId} {q : Nat → Nat} {K : ty_S → Int32 → Prop}  (X : ty_X D cA p s m args meth c cX5_collect 5 (some .int) wsX5_collect RX5)  (x1 : Int32) (t0 : Int32) (S : ty_S) (H : Heap) (locs : List Loc) (ls : Array Slot) (h : jX5_collect_16 K  x1 t0 S) (Y : ty_Y D cA q ty_LM S s H locs) (hl : lv_has ls 5 [(0, .ref (q 0)), (1, .int x1)]) : W p l e rX5_collect s m args below meth c H locs 0 0 (ty_MI D cA q ty_LM K below args s) (F0 m 16 ls [.int t0, .ref (q 0)]) := by
  have hx := X.1.1
  have hb := X.1.2.1
  unfold jX5_collect_16 at h
  refine tp_X5_thrown X Y iX5_collect_X5 kX5_collect_0 dX5_collect_16 (fun H locs Y => ?_)
  refine lv_aload_n hx hb dX5_collect_19 rfl (lv_at hl 0 rfl) ?_
  refine tg_X5_thrown (v := t0) X Y iX5_collect_X5 kX5_collect_0 rfl dX5_collect_20 ?_
  refine lv_if_le (tgt := 28) hx hb dX5_collect_23 (by decide) (fun c9 => ?_) (fun c9 => ?_)
  · have h := ty_t h c9
    refine lv_iload_n hx hb dX5_collect_28 rfl (lv_at hl 1 rfl) ?_
    refine lv_if_ne (tgt := 42) hx hb dX5_collect_29 (by decide) (fun c9 => ?_) (fun c9 => ?_)
    · have h := ty_f h c9
      refine lv_iload_n hx hb dX5_collect_42 rfl (lv_at hl 1 rfl) ?_
      refine lv_istore_n (lv' := [(2, .int x1), (0, .ref (q 0)), (1, .int x1)]) hx hb dX5_collect_43 rfl hl (by decide) rfl (fun ls hl => ?_)
      refine lv_iconst (v := (0 : Int32)) hx hb dX5_collect_44 (by decide) ?_
      refine lv_istore_n (lv' := [(3, .int (0 : Int32)), (2, .int x1), (0, .ref (q 0)), (1, .int x1)]) hx hb dX5_collect_45 rfl hl (by decide) rfl (fun ls hl => ?_)
      refine lv_iconst (v := (0 : Int32)) hx hb dX5_collect_46 (by decide) ?_
      refine lv_istore (lv' := [(4, .int (0 : Int32)), (3, .int (0 : Int32)), (2, .int x1), (0, .ref (q 0)), (1, .int x1)]) hx hb dX5_collect_47 hl (by decide) rfl (fun ls hl => ?_)
      obtain ⟨n9, h⟩ := h
      exact wlX5_collect_49 X  n9 _ _ _ _ _ _ _ h Y (lv_sub hl [3, 2, 1, 0] rfl)
    · have h := ty_t h c9
      refine lv_bipush (v := (40 : Int32)) hx hb dX5_collect_32 (by decide) ?_
      refine lv_aload_n hx hb dX5_collect_34 rfl (lv_at hl 0 rfl) ?_
      refine ty_Vi (As := []) (b := 0) (rest := [.int (40 : Int32)]) X Y (cX5_freeCars_C l D cA q (ty_st S 60 0 t0)  _ h) rfl rfl (fun hts => cwV 0 hts gX5_collect_X5_freeCars rfl rfl rfl (by decide +kernel) ⟨Nat.le_of_ble_eq_true rfl, Nat.le_of_ble_eq_true rfl⟩) rfl hl.1 (Nat.le_of_ble_eq_true rfl) dX5_collect_35 ⟨Nat.zero_le _, Nat.zero_le _⟩ (fun r3 S3 H locs h Y => ?_)
      refine lv_isub hx hb dX5_collect_38 ?_
      refine lv_goto (tgt := 43) hx hb dX5_collect_39 (by decide) ?_
      refine lv_istore_n (lv' := [(2, .int ((40 : Int32) - r3)), (0, .ref (q 0)), (1, .int x1)]) hx hb dX5_collect_43 rfl hl (by decide) rfl (fun ls hl => ?_)
      refine lv_iconst (v := (0 : Int32)) hx hb dX5_collect_44 (by decide) ?_
      refine lv_istore_n (lv' := [(3, .int (0 : Int32)), (2, .int ((40 : Int32) - r3)), (0, .ref (q 0)), (1, .int x1)]) hx hb dX5_collect_45 rfl hl (by decide) rfl (fun ls hl => ?_)
      refine lv_iconst (v := (0 : Int32)) hx hb dX5_collect_46 (by decide) ?_
      refine lv_istore (lv' := [(4, .int (0 : Int32)), (3, .int (0 : Int32)), (2, .int ((40 : Int32) - r3)), (0, .ref (q 0)), (1, .int x1)]) hx hb dX5_collect_47 hl (by decide) rfl (fun ls hl => ?_)
      obtain ⟨n9, h⟩ := h
      exact wlX5_collect_49 X  n9 _ _ _ _ _ _ _ h Y (lv_sub hl [3, 2, 1, 0] rfl)
  · have h := ty_f h c9
    refine lv_iconst (v := (0 : Int32)) hx hb dX5_collect_26 (by decide) ?_
    exact ty_iret X Y h dX5_collect_27
def jX5_collect_11 (K : ty_S → Int32 → Prop)  (x1 : Int32) (S : ty_S) : Prop :=
  jX5_collect_16 K  x1 (1 : Int32) S
set_option maxHeartbeats 4000000 in
set_option maxRecDepth 100000 in
theorem wjX5_collect_11 {p : Program} {l : Launch} {e : Env} {s : State} {m : MethodId} {args : Array Value} {below : List Frame} {meth : Method} {c : Code} {D : va_G} {cA : Nat → ClassId} {q : Nat → Nat} {K : ty_S → Int32 → Prop}  (X : ty_X D cA p s m args meth c cX5_collect 5 (some .int) wsX5_collect RX5)  (x1 : Int32) (S : ty_S) (H : Heap) (locs : List Loc) (ls : Array Slot) (h : jX5_collect_11 K  x1 S) (Y : ty_Y D cA q ty_LM S s H locs) (hl : lv_has ls 5 [(0, .ref (q 0)), (1, .int x1)]) : W p l e rX5_collect s m args below meth c H locs 0 0 (ty_MI D cA q ty_LM K below args s) (F0 m 11 ls [.ref (q 0)]) := by
  have hx := X.1.1
  have hb := X.1.2.1
  unfold jX5_collect_11 at h
  refine lv_iconst (v := (1 : Int32)) hx hb dX5_collect_11 (by decide) ?_
  refine lv_goto (tgt := 16) hx hb dX5_collect_12 (by decide) ?_
  exact wjX5_collect_16 X  _ _ _ _ _ _ h Y (lv_sub hl [0, 1] rfl)
def eX5_collect (S : ty_S) (x1 : Int32) (K : ty_S → Int32 → Prop) : Prop :=
  (if x1 < (0 : Int32) then jX5_collect_11 K  x1 S else (if x1 ≤ (100 : Int32) then jX5_collect_16 K  x1 (0 : Int32) S else jX5_collect_11 K  x1 S))
set_option maxHeartbeats 4000000 in
set_option maxRecDepth 100000 in
theorem cX5_collect_C (l : Launch) (D : va_G) (cA : Nat → ClassId) (q : Nat → Nat) (S : ty_S) (x1 : Int32) (K : ty_S → Int32 → Prop) (h : eX5_collect S x1 K) : ∀ sz, Met l yX5_collect wsX5_collect rX5_collect (ty_Pc D cA q ty_LM S sz [.ref (q 0), .int x1]) (ty_Qi D cA q ty_LM sz K) 0 0 (ty_A q ty_LM.length sz) := by
  refine ty_ofM (ret := (some .int)) (maxL := 5) (cc := cX5_collect) (own := RX5) (Qc := fun sz => ty_Qi D cA q ty_LM sz K) (by decide +kernel) rfl (Nat.le_of_ble_eq_true rfl) rfl ?_
  intro p e s m args below meth c ls X hl Y
  have hx := X.1.1
  have hb := X.1.2.1
  have hl : lv_has ls 5 [(0, .ref (q 0)), (1, .int x1)] := hl
  unfold eX5_collect at h
  refine lv_aload_n hx hb dX5_collect_0 rfl (lv_at hl 0 rfl) ?_
  refine lv_iload_n hx hb dX5_collect_1 rfl (lv_at hl 1 rfl) ?_
  refine lv_if_lt (tgt := 11) hx hb dX5_collect_2 (by decide) (fun c9 => ?_) (fun c9 => ?_)
  · have h := ty_t h c9
    exact wjX5_collect_11 X  _ _ _ _ _ h Y (lv_sub hl [0, 1] rfl)
  · have h := ty_f h c9
    refine lv_iload_n hx hb dX5_collect_5 rfl (lv_at hl 1 rfl) ?_
    refine lv_bipush (v := (100 : Int32)) hx hb dX5_collect_6 (by decide) ?_
    refine lv_icmp_le (tgt := 15) hx hb dX5_collect_8 (by decide) (fun c9 => ?_) (fun c9 => ?_)
    · have h := ty_t h c9
      refine lv_iconst (v := (0 : Int32)) hx hb dX5_collect_15 (by decide) ?_
      exact wjX5_collect_16 X  _ _ _ _ _ _ h Y (lv_sub hl [0, 1] rfl)
    · have h := ty_f h c9
      exact wjX5_collect_11 X  _ _ _ _ _ h Y (lv_sub hl [0, 1] rfl)

abbrev rX5_noRegister : Room := { frames := 0, cells := 0, slots := 0, locals := 0 }
def eX5_noRegister (S : ty_S) (x0 : Int32) (K : ty_S → Int32 → Prop) : Prop :=
  (if x0 < (0 : Int32) then K S (1 : Int32) else (if x0 < (16 : Int32) then K S (0 : Int32) else K S (1 : Int32)))
set_option maxHeartbeats 4000000 in
set_option maxRecDepth 100000 in
theorem cX5_noRegister_C (l : Launch) (D : va_G) (cA : Nat → ClassId) (q : Nat → Nat) (S : ty_S) (x0 : Int32) (K : ty_S → Int32 → Prop) (h : eX5_noRegister S x0 K) : ∀ sz, Met l yX5_noRegister wsX5_noRegister rX5_noRegister (ty_Pc D cA q ty_LM S sz [.int x0]) (ty_Qi D cA q ty_LM sz K) 0 0 (ty_A q ty_LM.length sz) := by
  refine ty_ofM (ret := (some .boolean)) (maxL := 1) (cc := cX5_noRegister) (own := RX5) (Qc := fun sz => ty_Qi D cA q ty_LM sz K) (by decide +kernel) rfl (Nat.le_of_ble_eq_true rfl) rfl ?_
  intro p e s m args below meth c ls X hl Y
  have hx := X.1.1
  have hb := X.1.2.1
  have hl : lv_has ls 1 [(0, .int x0)] := hl
  unfold eX5_noRegister at h
  refine lv_iload_n hx hb dX5_noRegister_0 rfl (lv_at hl 0 rfl) ?_
  refine lv_if_lt (tgt := 10) hx hb dX5_noRegister_1 (by decide) (fun c9 => ?_) (fun c9 => ?_)
  · have h := ty_t h c9
    refine lv_iconst (v := (1 : Int32)) hx hb dX5_noRegister_10 (by decide) ?_
    refine lv_goto (tgt := 15) hx hb dX5_noRegister_11 (by decide) ?_
    exact ty_zret X Y h rfl dX5_noRegister_15
  · have h := ty_f h c9
    refine lv_iload_n hx hb dX5_noRegister_4 rfl (lv_at hl 0 rfl) ?_
    refine lv_bipush (v := (16 : Int32)) hx hb dX5_noRegister_5 (by decide) ?_
    refine lv_icmp_lt (tgt := 14) hx hb dX5_noRegister_7 (by decide) (fun c9 => ?_) (fun c9 => ?_)
    · have h := ty_t h c9
      refine lv_iconst (v := (0 : Int32)) hx hb dX5_noRegister_14 (by decide) ?_
      exact ty_zret X Y h rfl dX5_noRegister_15
    · have h := ty_f h c9
      refine lv_iconst (v := (1 : Int32)) hx hb dX5_noRegister_10 (by decide) ?_
      refine lv_goto (tgt := 15) hx hb dX5_noRegister_11 (by decide) ?_
      exact ty_zret X Y h rfl dX5_noRegister_15

abbrev rX5_length : Room := { frames := 0, cells := 0, slots := 0, locals := 0 }
theorem kX5_length_0 : Cond.fieldLink RX5 75 "TrainYardModel" "thrown" "I" ∈ wsX5_length := ty_m 1 (by decide +kernel)
theorem kX5_length_1 : Cond.fieldLink RX5 52 "TrainYardModel" "length" "I" ∈ wsX5_length := ty_m 2 (by decide +kernel)
theorem iX5_length_X5 : ∀ w ∈ wsX50, w ∈ wsX5_length := ty_inp _ [3, 4, 5, 6, 7, 8, 9, 10, 11, 12, 13, 14, 15, 16, 17, 18, 19, 20, 21, 22, 23, 24, 25, 26, 27, 28, 29, 30, 31, 32, 33] (by decide +kernel)
def jX5_length_17 (K : ty_S → Int32 → Prop)  (x1 : Int32) (t0 : Int32) (S : ty_S) : Prop :=
  (if t0 ≤ (0 : Int32) then K (ty_st (ty_st S 60 0 t0) 51 0 x1) (S 51 0) else K (ty_st S 60 0 t0) (0 : Int32))
set_option maxHeartbeats 4000000 in
set_option maxRecDepth 100000 in
theorem wjX5_length_17 {p : Program} {l : Launch} {e : Env} {s : State} {m : MethodId} {args : Array Value} {below : List Frame} {meth : Method} {c : Code} {D : va_G} {cA : Nat → ClassId} {q : Nat → Nat} {K : ty_S → Int32 → Prop}  (X : ty_X D cA p s m args meth c cX5_length 3 (some .int) wsX5_length RX5)  (x1 : Int32) (t0 : Int32) (S : ty_S) (H : Heap) (locs : List Loc) (ls : Array Slot) (h : jX5_length_17 K  x1 t0 S) (Y : ty_Y D cA q ty_LM S s H locs) (hl : lv_has ls 3 [(0, .ref (q 0)), (1, .int x1)]) : W p l e rX5_length s m args below meth c H locs 0 0 (ty_MI D cA q ty_LM K below args s) (F0 m 17 ls [.int t0, .ref (q 0)]) := by
  have hx := X.1.1
  have hb := X.1.2.1
  unfold jX5_length_17 at h
  refine tp_X5_thrown X Y iX5_length_X5 kX5_length_0 dX5_length_17 (fun H locs Y => ?_)
  refine lv_aload_n hx hb dX5_length_20 rfl (lv_at hl 0 rfl) ?_
  refine tg_X5_thrown (v := t0) X Y iX5_length_X5 kX5_length_0 rfl dX5_length_21 ?_
  refine lv_if_le (tgt := 29) hx hb dX5_length_24 (by decide) (fun c9 => ?_) (fun c9 => ?_)
  · have h := ty_t h c9
    refine lv_aload_n hx hb dX5_length_29 rfl (lv_at hl 0 rfl) ?_
    refine tg_X5_length (v := (S 51 0)) X Y iX5_length_X5 kX5_length_1 rfl dX5_length_30 ?_
    refine lv_istore_n (lv' := [(2, .int (S 51 0)), (0, .ref (q 0)), (1, .int x1)]) hx hb dX5_length_33 rfl hl (by decide) rfl (fun ls hl => ?_)
    refine lv_aload_n hx hb dX5_length_34 rfl (lv_at hl 1 rfl) ?_
    refine lv_iload_n hx hb dX5_length_35 rfl (lv_at hl 2 rfl) ?_
    refine tp_X5_length X Y iX5_length_X5 kX5_length_1 dX5_length_36 (fun H locs Y => ?_)
    refine lv_iload_n hx hb dX5_length_39 rfl (lv_at hl 0 rfl) ?_
    exact ty_iret X Y h dX5_length_40
  · have h := ty_f h c9
    refine lv_iconst (v := (0 : Int32)) hx hb dX5_length_27 (by decide) ?_
    exact ty_iret X Y h dX5_length_28
def jX5_length_12 (K : ty_S → Int32 → Prop)  (x1 : Int32) (S : ty_S) : Prop :=
  jX5_length_17 K  x1 (1 : Int32) S
set_option maxHeartbeats 4000000 in
set_option maxRecDepth 100000 in
theorem wjX5_length_12 {p : Program} {l : Launch} {e : Env} {s : State} {m : MethodId} {args : Array Value} {below : List Frame} {meth : Method} {c : Code} {D : va_G} {cA : Nat → ClassId} {q : Nat → Nat} {K : ty_S → Int32 → Prop}  (X : ty_X D cA p s m args meth c cX5_length 3 (some .int) wsX5_length RX5)  (x1 : Int32) (S : ty_S) (H : Heap) (locs : List Loc) (ls : Array Slot) (h : jX5_length_12 K  x1 S) (Y : ty_Y D cA q ty_LM S s H locs) (hl : lv_has ls 3 [(0, .ref (q 0)), (1, .int x1)]) : W p l e rX5_length s m args below meth c H locs 0 0 (ty_MI D cA q ty_LM K below args s) (F0 m 12 ls [.ref (q 0)]) := by
  have hx := X.1.1
  have hb := X.1.2.1
  unfold jX5_length_12 at h
  refine lv_iconst (v := (1 : Int32)) hx hb dX5_length_12 (by decide) ?_
  refine lv_goto (tgt := 17) hx hb dX5_length_13 (by decide) ?_
  exact wjX5_length_17 X  _ _ _ _ _ _ h Y (lv_sub hl [0, 1] rfl)
def eX5_length (S : ty_S) (x1 : Int32) (K : ty_S → Int32 → Prop) : Prop :=
  (if x1 < (1 : Int32) then jX5_length_12 K  x1 S else (if x1 ≤ (40 : Int32) then jX5_length_17 K  x1 (0 : Int32) S else jX5_length_12 K  x1 S))
set_option maxHeartbeats 4000000 in
set_option maxRecDepth 100000 in
theorem cX5_length_C (l : Launch) (D : va_G) (cA : Nat → ClassId) (q : Nat → Nat) (S : ty_S) (x1 : Int32) (K : ty_S → Int32 → Prop) (h : eX5_length S x1 K) : ∀ sz, Met l yX5_length wsX5_length rX5_length (ty_Pc D cA q ty_LM S sz [.ref (q 0), .int x1]) (ty_Qi D cA q ty_LM sz K) 0 0 (ty_A q ty_LM.length sz) := by
  refine ty_ofM (ret := (some .int)) (maxL := 3) (cc := cX5_length) (own := RX5) (Qc := fun sz => ty_Qi D cA q ty_LM sz K) (by decide +kernel) rfl (Nat.le_of_ble_eq_true rfl) rfl ?_
  intro p e s m args below meth c ls X hl Y
  have hx := X.1.1
  have hb := X.1.2.1
  have hl : lv_has ls 3 [(0, .ref (q 0)), (1, .int x1)] := hl
  unfold eX5_length at h
  refine lv_aload_n hx hb dX5_length_0 rfl (lv_at hl 0 rfl) ?_
  refine lv_iload_n hx hb dX5_length_1 rfl (lv_at hl 1 rfl) ?_
  refine lv_iconst (v := (1 : Int32)) hx hb dX5_length_2 (by decide) ?_
  refine lv_icmp_lt (tgt := 12) hx hb dX5_length_3 (by decide) (fun c9 => ?_) (fun c9 => ?_)
  · have h := ty_t h c9
    exact wjX5_length_12 X  _ _ _ _ _ h Y (lv_sub hl [0, 1] rfl)
  · have h := ty_f h c9
    refine lv_iload_n hx hb dX5_length_6 rfl (lv_at hl 1 rfl) ?_
    refine lv_bipush (v := (40 : Int32)) hx hb dX5_length_7 (by decide) ?_
    refine lv_icmp_le (tgt := 16) hx hb dX5_length_9 (by decide) (fun c9 => ?_) (fun c9 => ?_)
    · have h := ty_t h c9
      refine lv_iconst (v := (0 : Int32)) hx hb dX5_length_16 (by decide) ?_
      exact wjX5_length_17 X  _ _ _ _ _ _ h Y (lv_sub hl [0, 1] rfl)
    · have h := ty_f h c9
      exact wjX5_length_12 X  _ _ _ _ _ h Y (lv_sub hl [0, 1] rfl)

abbrev rX5_lastHasRoom : Room := { frames := 1, cells := 0, slots := 0, locals := 22 }
theorem kX5_lastHasRoom_0 : Cond.fieldLink RX5 78 "TrainYardModel" "trains" "I" ∈ wsX5_lastHasRoom := ty_m 1 (by decide +kernel)
theorem iX5_lastHasRoom_X5 : ∀ w ∈ wsX50, w ∈ wsX5_lastHasRoom := ty_inp _ [14, 15, 16, 17, 18, 19, 20, 21, 22, 23, 24, 25, 26, 27, 28, 29, 30, 31, 32, 33, 34, 35, 36, 37, 38, 39, 40, 41, 42, 43, 44] (by decide +kernel)
def eX5_lastHasRoom (S : ty_S) (x1 : Int32) (K : ty_S → Int32 → Prop) : Prop :=
  (if (S 50 0) ≤ (0 : Int32) then K S (0 : Int32) else (eX5_lastCar S ((S 50 0) - (1 : Int32)) (fun S1 r1 => (eX5_hasRoom S1 r1 x1 (fun S2 r2 => (if r2 = (0 : Int32) then K S2 (0 : Int32) else K S2 (1 : Int32)))))))
set_option maxHeartbeats 4000000 in
set_option maxRecDepth 100000 in
theorem cX5_lastHasRoom_C (l : Launch) (D : va_G) (cA : Nat → ClassId) (q : Nat → Nat) (S : ty_S) (x1 : Int32) (K : ty_S → Int32 → Prop) (h : eX5_lastHasRoom S x1 K) : ∀ sz, Met l yX5_lastHasRoom wsX5_lastHasRoom rX5_lastHasRoom (ty_Pc D cA q ty_LM S sz [.ref (q 0), .int x1]) (ty_Qi D cA q ty_LM sz K) 0 0 (ty_A q ty_LM.length sz) := by
  refine ty_ofM (ret := (some .boolean)) (maxL := 2) (cc := cX5_lastHasRoom) (own := RX5) (Qc := fun sz => ty_Qi D cA q ty_LM sz K) (by decide +kernel) rfl (Nat.le_of_ble_eq_true rfl) rfl ?_
  intro p e s m args below meth c ls X hl Y
  have hx := X.1.1
  have hb := X.1.2.1
  have hl : lv_has ls 2 [(0, .ref (q 0)), (1, .int x1)] := hl
  unfold eX5_lastHasRoom at h
  refine lv_aload_n hx hb dX5_lastHasRoom_0 rfl (lv_at hl 0 rfl) ?_
  refine tg_X5_trains (v := (S 50 0)) X Y iX5_lastHasRoom_X5 kX5_lastHasRoom_0 rfl dX5_lastHasRoom_1 ?_
  refine lv_if_le (tgt := 29) hx hb dX5_lastHasRoom_4 (by decide) (fun c9 => ?_) (fun c9 => ?_)
  · have h := ty_t h c9
    refine lv_iconst (v := (0 : Int32)) hx hb dX5_lastHasRoom_29 (by decide) ?_
    exact ty_zret X Y h rfl dX5_lastHasRoom_30
  · have h := ty_f h c9
    refine lv_aload_n hx hb dX5_lastHasRoom_7 rfl (lv_at hl 0 rfl) ?_
    refine lv_aload_n hx hb dX5_lastHasRoom_8 rfl (lv_at hl 0 rfl) ?_
    refine lv_aload_n hx hb dX5_lastHasRoom_9 rfl (lv_at hl 0 rfl) ?_
    refine tg_X5_trains (v := (S 50 0)) X Y iX5_lastHasRoom_X5 kX5_lastHasRoom_0 rfl dX5_lastHasRoom_10 ?_
    refine lv_iconst (v := (1 : Int32)) hx hb dX5_lastHasRoom_13 (by decide) ?_
    refine lv_isub hx hb dX5_lastHasRoom_14 ?_
    refine ty_Vi (As := [.int ((S 50 0) - (1 : Int32))]) (b := 0) (rest := [.ref (q 0)]) X Y (cX5_lastCar_C l D cA q S ((S 50 0) - (1 : Int32)) _ h) rfl rfl (fun hts => cwV 1 hts gX5_lastHasRoom_X5_lastCar rfl rfl rfl (by decide +kernel) ⟨Nat.le_of_ble_eq_true rfl, Nat.le_of_ble_eq_true rfl⟩) rfl hl.1 (Nat.le_of_ble_eq_true rfl) dX5_lastHasRoom_15 ⟨Nat.zero_le _, Nat.zero_le _⟩ (fun r1 S1 H locs h Y => ?_)
    refine lv_iload_n hx hb dX5_lastHasRoom_18 rfl (lv_at hl 1 rfl) ?_
    refine ty_Vi (As := [.int r1, .int x1]) (b := 0) (rest := []) X Y (cX5_hasRoom_C l D cA q S1 r1 x1 _ h) rfl rfl (fun hts => cwV 2 hts gX5_lastHasRoom_X5_hasRoom rfl rfl rfl (by decide +kernel) ⟨Nat.le_of_ble_eq_true rfl, Nat.le_of_ble_eq_true rfl⟩) rfl hl.1 (Nat.le_of_ble_eq_true rfl) dX5_lastHasRoom_19 ⟨Nat.zero_le _, Nat.zero_le _⟩ (fun r2 S2 H locs h Y => ?_)
    refine lv_if_eq (tgt := 29) hx hb dX5_lastHasRoom_22 (by decide) (fun c9 => ?_) (fun c9 => ?_)
    · have h := ty_t h c9
      refine lv_iconst (v := (0 : Int32)) hx hb dX5_lastHasRoom_29 (by decide) ?_
      exact ty_zret X Y h rfl dX5_lastHasRoom_30
    · have h := ty_f h c9
      refine lv_iconst (v := (1 : Int32)) hx hb dX5_lastHasRoom_25 (by decide) ?_
      refine lv_goto (tgt := 30) hx hb dX5_lastHasRoom_26 (by decide) ?_
      exact ty_zret X Y h rfl dX5_lastHasRoom_30

abbrev rX5_make : Room := { frames := 6, cells := 0, slots := 0, locals := 147 }
theorem kX5_make_0 : Cond.fieldLink RX5 75 "TrainYardModel" "thrown" "I" ∈ wsX5_make := ty_m 1 (by decide +kernel)
theorem kX5_make_1 : Cond.fieldLink RX5 7 "TrainYardModel" "label" "[I" ∈ wsX5_make := ty_m 5 (by decide +kernel)
theorem kX5_make_2 : Cond.fieldLink RX5 176 "TrainYardModel" "labels" "I" ∈ wsX5_make := ty_m 6 (by decide +kernel)
theorem kX5_make_3 : Cond.fieldLink RX5 19 "TrainYardModel" "references" "[I" ∈ wsX5_make := ty_m 7 (by decide +kernel)
theorem kX5_make_4 : Cond.fieldLink RX5 22 "TrainYardModel" "numbers" "[I" ∈ wsX5_make := ty_m 8 (by decide +kernel)
theorem kX5_make_5 : Cond.fieldLink RX5 78 "TrainYardModel" "trains" "I" ∈ wsX5_make := ty_m 2 (by decide +kernel)
theorem kX5_make_6 : Cond.fieldLink RX5 49 "TrainYardModel" "register" "[I" ∈ wsX5_make := ty_m 11 (by decide +kernel)
theorem kX5_make_7 : Cond.fieldLink RX5 25 "TrainYardModel" "to" "[I" ∈ wsX5_make := ty_m 9 (by decide +kernel)
theorem kX5_make_8 : Cond.fieldLink RX5 28 "TrainYardModel" "value" "[I" ∈ wsX5_make := ty_m 10 (by decide +kernel)
theorem kX5_make_9 : Cond.fieldLink RX5 43 "TrainYardModel" "trainSize" "[I" ∈ wsX5_make := ty_m 3 (by decide +kernel)
theorem kX5_make_10 : Cond.fieldLink RX5 52 "TrainYardModel" "length" "I" ∈ wsX5_make := ty_m 4 (by decide +kernel)
theorem iX5_make_X5 : ∀ w ∈ wsX50, w ∈ wsX5_make := ty_inp _ [115, 116, 117, 118, 119, 120, 121, 122, 123, 124, 125, 126, 127, 128, 129, 130, 131, 132, 133, 134, 135, 136, 137, 138, 139, 140, 141, 142, 143, 144, 145] (by decide +kernel)
def lX5_make_244 (K : ty_S → Int32 → Prop)  : Nat → Int32 → Int32 → Int32 → ty_S → Prop
  | 0, _, _, _, _ => False
  | n + 1, x1, x7, x8, S => (if (12 : Int32) ≤ x8 then (eX5_lastCar S ((S 50 0) - (1 : Int32)) (fun S4 r4 => (eX5_lay S4 x7 r4 (fun S5 => (vp_in x1 16 ∧ K (ty_st S5 43 x1.toNatClampNeg x7) (S5 58 0)))))) else (vp_in (((12 : Int32) * x7) + x8) 7680 ∧ (vp_in (((12 : Int32) * x7) + x8) 7680 ∧ lX5_make_244 K  n x1 x7 (x8 + (1 : Int32)) (ty_st (ty_st S 35 (((12 : Int32) * x7) + x8).toNatClampNeg (-1 : Int32)) 36 (((12 : Int32) * x7) + x8).toNatClampNeg (0 : Int32)))))
set_option maxHeartbeats 4000000 in
set_option maxRecDepth 100000 in
theorem wlX5_make_244 {p : Program} {l : Launch} {e : Env} {s : State} {m : MethodId} {args : Array Value} {below : List Frame} {meth : Method} {c : Code} {D : va_G} {cA : Nat → ClassId} {q : Nat → Nat} {K : ty_S → Int32 → Prop}  (X : ty_X D cA p s m args meth c cX5_make 9 (some .int) wsX5_make RX5)  : ∀ (n : Nat) (x1 : Int32) (x7 : Int32) (x8 : Int32) (S : ty_S) (H : Heap) (locs : List Loc) (ls : Array Slot), lX5_make_244 K  n x1 x7 x8 S → ty_Y D cA q ty_LM S s H locs → lv_has ls 9 [(0, .ref (q 0)), (1, .int x1), (7, .int x7), (8, .int x8)] → W p l e rX5_make s m args below meth c H locs 0 0 (ty_MI D cA q ty_LM K below args s) (F0 m 244 ls []) := by
  have hx := X.1.1
  have hb := X.1.2.1
  intro n
  induction n with
  | zero =>
    intro x1 x7 x8 S H locs ls h
    exact False.elim h
  | succ n ih =>
    intro x1 x7 x8 S H locs ls h Y hl
    unfold lX5_make_244 at h
    refine lv_iload hx hb dX5_make_244 (lv_at hl 3 rfl) ?_
    refine lv_bipush (v := (12 : Int32)) hx hb dX5_make_246 (by decide) ?_
    refine lv_icmp_ge (tgt := 285) hx hb dX5_make_248 (by decide) (fun c9 => ?_) (fun c9 => ?_)
    · have h := ty_t h c9
      refine lv_aload_n hx hb dX5_make_285 rfl (lv_at hl 0 rfl) ?_
      refine lv_iload hx hb dX5_make_286 (lv_at hl 2 rfl) ?_
      refine lv_aload_n hx hb dX5_make_288 rfl (lv_at hl 0 rfl) ?_
      refine lv_aload_n hx hb dX5_make_289 rfl (lv_at hl 0 rfl) ?_
      refine tg_X5_trains (v := (S 50 0)) X Y iX5_make_X5 kX5_make_5 rfl dX5_make_290 ?_
      refine lv_iconst (v := (1 : Int32)) hx hb dX5_make_293 (by decide) ?_
      refine lv_isub hx hb dX5_make_294 ?_
      refine ty_Vi (As := [.int ((S 50 0) - (1 : Int32))]) (b := 0) (rest := [.int x7, .ref (q 0)]) X Y (cX5_lastCar_C l D cA q S ((S 50 0) - (1 : Int32)) _ h) rfl rfl (fun hts => cwV 1 hts gX5_make_X5_lastCar rfl rfl rfl (by decide +kernel) ⟨Nat.le_of_ble_eq_true rfl, Nat.le_of_ble_eq_true rfl⟩) rfl hl.1 (Nat.le_of_ble_eq_true rfl) dX5_make_295 ⟨Nat.zero_le _, Nat.zero_le _⟩ (fun r4 S4 H locs h Y => ?_)
      refine ty_Vv (As := [.int x7, .int r4]) (b := 0) (rest := []) X Y (cX5_lay_C l D cA q S4 x7 r4 _ h) rfl rfl (fun hts => cwV 2 hts gX5_make_X5_lay rfl rfl rfl (by decide +kernel) ⟨Nat.le_of_ble_eq_true rfl, Nat.le_of_ble_eq_true rfl⟩) rfl hl.1 (Nat.le_of_ble_eq_true rfl) dX5_make_298 ⟨Nat.zero_le _, Nat.zero_le _⟩ (fun S5 H locs h Y => ?_)
      refine lv_aload_n hx hb dX5_make_301 rfl (lv_at hl 0 rfl) ?_
      refine tg_X5_register X Y iX5_make_X5 kX5_make_6 dX5_make_302 ?_
      refine lv_iload_n hx hb dX5_make_305 rfl (lv_at hl 1 rfl) ?_
      refine lv_iload hx hb dX5_make_306 (lv_at hl 2 rfl) ?_
      refine ty_iast X Y 14 16 43 rfl (by decide) h.1 dX5_make_308 (fun H locs Y => ?_)
      have h := h.2
      refine lv_aload_n hx hb dX5_make_309 rfl (lv_at hl 0 rfl) ?_
      refine tg_X5_labels (v := (S5 58 0)) X Y iX5_make_X5 kX5_make_2 rfl dX5_make_310 ?_
      exact ty_iret X Y h dX5_make_313
    · have h := ty_f h c9
      refine lv_aload_n hx hb dX5_make_251 rfl (lv_at hl 0 rfl) ?_
      refine tg_X5_to X Y iX5_make_X5 kX5_make_7 dX5_make_252 ?_
      refine lv_bipush (v := (12 : Int32)) hx hb dX5_make_255 (by decide) ?_
      refine lv_iload hx hb dX5_make_257 (lv_at hl 2 rfl) ?_
      refine lv_imul hx hb dX5_make_259 ?_
      refine lv_iload hx hb dX5_make_260 (lv_at hl 3 rfl) ?_
      refine lv_iadd hx hb dX5_make_262 ?_
      refine lv_iconst (v := (-1 : Int32)) hx hb dX5_make_263 (by decide) ?_
      refine ty_iast X Y 6 7680 35 rfl (by decide) h.1 dX5_make_264 (fun H locs Y => ?_)
      have h := h.2
      refine lv_aload_n hx hb dX5_make_265 rfl (lv_at hl 0 rfl) ?_
      refine tg_X5_value X Y iX5_make_X5 kX5_make_8 dX5_make_266 ?_
      refine lv_bipush (v := (12 : Int32)) hx hb dX5_make_269 (by decide) ?_
      refine lv_iload hx hb dX5_make_271 (lv_at hl 2 rfl) ?_
      refine lv_imul hx hb dX5_make_273 ?_
      refine lv_iload hx hb dX5_make_274 (lv_at hl 3 rfl) ?_
      refine lv_iadd hx hb dX5_make_276 ?_
      refine lv_iconst (v := (0 : Int32)) hx hb dX5_make_277 (by decide) ?_
      refine ty_iast X Y 7 7680 36 rfl (by decide) h.1 dX5_make_278 (fun H locs Y => ?_)
      have h := h.2
      refine lv_iinc (v := (x8 + (1 : Int32))) (lv' := [(8, .int (x8 + (1 : Int32))), (0, .ref (q 0)), (1, .int x1), (7, .int x7)]) hx hb dX5_make_279 hl (k := 3) rfl rfl (by decide) rfl (fun ls hl => ?_)
      refine lv_goto (tgt := 244) hx hb dX5_make_282 (by decide) ?_
      exact ih _ _ _ _ _ _ _ h Y (lv_sub hl [1, 2, 3, 0] rfl)
def lX5_make_188 (K : ty_S → Int32 → Prop)  : Nat → Int32 → Int32 → Int32 → Int32 → ty_S → Prop
  | 0, _, _, _, _, _ => False
  | n + 1, x1, x2, x3, x7, S => (vp_in x7 640 ∧ (if (S 30 x7.toNatClampNeg) ≤ (0 : Int32) then (vp_in x7 640 ∧ (vp_in x7 640 ∧ (vp_in x7 640 ∧ ∃ n9, lX5_make_244 K  n9 x1 x7 (0 : Int32) (ty_st (ty_st (ty_st (ty_st S 58 0 ((S 58 0) + (1 : Int32))) 30 x7.toNatClampNeg ((S 58 0) + (1 : Int32))) 33 x7.toNatClampNeg x2) 34 x7.toNatClampNeg x3)))) else lX5_make_188 K  n x1 x2 x3 (x7 + (1 : Int32)) S))
set_option maxHeartbeats 4000000 in
set_option maxRecDepth 100000 in
theorem wlX5_make_188 {p : Program} {l : Launch} {e : Env} {s : State} {m : MethodId} {args : Array Value} {below : List Frame} {meth : Method} {c : Code} {D : va_G} {cA : Nat → ClassId} {q : Nat → Nat} {K : ty_S → Int32 → Prop}  (X : ty_X D cA p s m args meth c cX5_make 9 (some .int) wsX5_make RX5)  : ∀ (n : Nat) (x1 : Int32) (x2 : Int32) (x3 : Int32) (x7 : Int32) (S : ty_S) (H : Heap) (locs : List Loc) (ls : Array Slot), lX5_make_188 K  n x1 x2 x3 x7 S → ty_Y D cA q ty_LM S s H locs → lv_has ls 9 [(0, .ref (q 0)), (1, .int x1), (2, .int x2), (3, .int x3), (7, .int x7)] → W p l e rX5_make s m args below meth c H locs 0 0 (ty_MI D cA q ty_LM K below args s) (F0 m 188 ls []) := by
  have hx := X.1.1
  have hb := X.1.2.1
  intro n
  induction n with
  | zero =>
    intro x1 x2 x3 x7 S H locs ls h
    exact False.elim h
  | succ n ih =>
    intro x1 x2 x3 x7 S H locs ls h Y hl
    unfold lX5_make_188 at h
    refine lv_aload_n hx hb dX5_make_188 rfl (lv_at hl 0 rfl) ?_
    refine tg_X5_label X Y iX5_make_X5 kX5_make_1 dX5_make_189 ?_
    refine lv_iload hx hb dX5_make_192 (lv_at hl 4 rfl) ?_
    refine ty_iald (v := (S 30 x7.toNatClampNeg)) X Y 1 640 30 rfl h.1 rfl dX5_make_194 ?_
    have h := h.2
    refine lv_if_le (tgt := 204) hx hb dX5_make_195 (by decide) (fun c9 => ?_) (fun c9 => ?_)
    · have h := ty_t h c9
      refine lv_aload_n hx hb dX5_make_204 rfl (lv_at hl 0 rfl) ?_
      refine lv_dup hx hb dX5_make_205 rfl ?_
      refine tg_X5_labels (v := (S 58 0)) X Y iX5_make_X5 kX5_make_2 rfl dX5_make_206 ?_
      refine lv_iconst (v := (1 : Int32)) hx hb dX5_make_209 (by decide) ?_
      refine lv_iadd hx hb dX5_make_210 ?_
      refine tp_X5_labels X Y iX5_make_X5 kX5_make_2 dX5_make_211 (fun H locs Y => ?_)
      refine lv_aload_n hx hb dX5_make_214 rfl (lv_at hl 0 rfl) ?_
      refine tg_X5_label X Y iX5_make_X5 kX5_make_1 dX5_make_215 ?_
      refine lv_iload hx hb dX5_make_218 (lv_at hl 4 rfl) ?_
      refine lv_aload_n hx hb dX5_make_220 rfl (lv_at hl 0 rfl) ?_
      refine tg_X5_labels (v := ((S 58 0) + (1 : Int32))) X Y iX5_make_X5 kX5_make_2 rfl dX5_make_221 ?_
      refine ty_iast X Y 1 640 30 rfl (by decide) h.1 dX5_make_224 (fun H locs Y => ?_)
      have h := h.2
      refine lv_aload_n hx hb dX5_make_225 rfl (lv_at hl 0 rfl) ?_
      refine tg_X5_references X Y iX5_make_X5 kX5_make_3 dX5_make_226 ?_
      refine lv_iload hx hb dX5_make_229 (lv_at hl 4 rfl) ?_
      refine lv_iload_n hx hb dX5_make_231 rfl (lv_at hl 2 rfl) ?_
      refine ty_iast X Y 4 640 33 rfl (by decide) h.1 dX5_make_232 (fun H locs Y => ?_)
      have h := h.2
      refine lv_aload_n hx hb dX5_make_233 rfl (lv_at hl 0 rfl) ?_
      refine tg_X5_numbers X Y iX5_make_X5 kX5_make_4 dX5_make_234 ?_
      refine lv_iload hx hb dX5_make_237 (lv_at hl 4 rfl) ?_
      refine lv_iload_n hx hb dX5_make_239 rfl (lv_at hl 3 rfl) ?_
      refine ty_iast X Y 5 640 34 rfl (by decide) h.1 dX5_make_240 (fun H locs Y => ?_)
      have h := h.2
      refine lv_iconst (v := (0 : Int32)) hx hb dX5_make_241 (by decide) ?_
      refine lv_istore (lv' := [(8, .int (0 : Int32)), (0, .ref (q 0)), (1, .int x1), (2, .int x2), (3, .int x3), (7, .int x7)]) hx hb dX5_make_242 hl (by decide) rfl (fun ls hl => ?_)
      obtain ⟨n9, h⟩ := h
      exact wlX5_make_244 X  n9 _ _ _ _ _ _ _ h Y (lv_sub hl [1, 2, 5, 0] rfl)
    · have h := ty_f h c9
      refine lv_iinc (v := (x7 + (1 : Int32))) (lv' := [(7, .int (x7 + (1 : Int32))), (0, .ref (q 0)), (1, .int x1), (2, .int x2), (3, .int x3)]) hx hb dX5_make_198 hl (k := 4) rfl rfl (by decide) rfl (fun ls hl => ?_)
      refine lv_goto (tgt := 188) hx hb dX5_make_201 (by decide) ?_
      exact ih _ _ _ _ _ _ _ _ h Y (lv_sub hl [1, 2, 3, 4, 0] rfl)
def jX5_make_134 (K : ty_S → Int32 → Prop)  (x1 : Int32) (x2 : Int32) (x3 : Int32) (x6 : Int32) (S : ty_S) : Prop :=
  (if x6 = (0 : Int32) then (if (S 50 0) = (0 : Int32) then (eX5_newTrain S  (fun S6 => ∃ n9, lX5_make_188 K  n9 x1 x2 x3 (0 : Int32) S6)) else (vp_in ((S 50 0) - (1 : Int32)) 41 ∧ (if (S 41 ((S 50 0) - (1 : Int32)).toNatClampNeg) < (S 51 0) then (eX5_freeCar S  (fun S7 r7 => (eX5_couple S7 ((S 50 0) - (1 : Int32)) r7 (fun S8 => ∃ n9, lX5_make_188 K  n9 x1 x2 x3 (0 : Int32) S8)))) else (eX5_newTrain S  (fun S9 => ∃ n9, lX5_make_188 K  n9 x1 x2 x3 (0 : Int32) S9))))) else ∃ n9, lX5_make_188 K  n9 x1 x2 x3 (0 : Int32) S)
set_option maxHeartbeats 4000000 in
set_option maxRecDepth 100000 in
theorem wjX5_make_134 {p : Program} {l : Launch} {e : Env} {s : State} {m : MethodId} {args : Array Value} {below : List Frame} {meth : Method} {c : Code} {D : va_G} {cA : Nat → ClassId} {q : Nat → Nat} {K : ty_S → Int32 → Prop}  (X : ty_X D cA p s m args meth c cX5_make 9 (some .int) wsX5_make RX5)  (x1 : Int32) (x2 : Int32) (x3 : Int32) (x6 : Int32) (S : ty_S) (H : Heap) (locs : List Loc) (ls : Array Slot) (h : jX5_make_134 K  x1 x2 x3 x6 S) (Y : ty_Y D cA q ty_LM S s H locs) (hl : lv_has ls 9 [(0, .ref (q 0)), (1, .int x1), (2, .int x2), (3, .int x3), (6, .int x6)]) : W p l e rX5_make s m args below meth c H locs 0 0 (ty_MI D cA q ty_LM K below args s) (F0 m 134 ls []) := by
  have hx := X.1.1
  have hb := X.1.2.1
  unfold jX5_make_134 at h
  refine lv_iload hx hb dX5_make_134 (lv_at hl 4 rfl) ?_
  refine lv_if_ne (tgt := 185) hx hb dX5_make_136 (by decide) (fun c9 => ?_) (fun c9 => ?_)
  · have h := ty_f h c9
    refine lv_iconst (v := (0 : Int32)) hx hb dX5_make_185 (by decide) ?_
    refine lv_istore (lv' := [(7, .int (0 : Int32)), (0, .ref (q 0)), (1, .int x1), (2, .int x2), (3, .int x3), (6, .int x6)]) hx hb dX5_make_186 hl (by decide) rfl (fun ls hl => ?_)
    obtain ⟨n9, h⟩ := h
    exact wlX5_make_188 X  n9 _ _ _ _ _ _ _ _ h Y (lv_sub hl [1, 2, 3, 4, 0] rfl)
  · have h := ty_t h c9
    refine lv_aload_n hx hb dX5_make_139 rfl (lv_at hl 0 rfl) ?_
    refine tg_X5_trains (v := (S 50 0)) X Y iX5_make_X5 kX5_make_5 rfl dX5_make_140 ?_
    refine lv_if_eq (tgt := 164) hx hb dX5_make_143 (by decide) (fun c9 => ?_) (fun c9 => ?_)
    · have h := ty_t h c9
      refine lv_aload_n hx hb dX5_make_164 rfl (lv_at hl 0 rfl) ?_
      refine ty_Vv (As := []) (b := 0) (rest := []) X Y (cX5_newTrain_C l D cA q S  _ h) rfl rfl (fun hts => cwV 0 hts gX5_make_X5_newTrain rfl rfl rfl (by decide +kernel) ⟨Nat.le_of_ble_eq_true rfl, Nat.le_of_ble_eq_true rfl⟩) rfl hl.1 (Nat.le_of_ble_eq_true rfl) dX5_make_165 ⟨Nat.zero_le _, Nat.zero_le _⟩ (fun S6 H locs h Y => ?_)
      refine lv_goto (tgt := 185) hx hb dX5_make_168 (by decide) ?_
      refine lv_iconst (v := (0 : Int32)) hx hb dX5_make_185 (by decide) ?_
      refine lv_istore (lv' := [(7, .int (0 : Int32)), (0, .ref (q 0)), (1, .int x1), (2, .int x2), (3, .int x3), (6, .int x6)]) hx hb dX5_make_186 hl (by decide) rfl (fun ls hl => ?_)
      obtain ⟨n9, h⟩ := h
      exact wlX5_make_188 X  n9 _ _ _ _ _ _ _ _ h Y (lv_sub hl [1, 2, 3, 4, 0] rfl)
    · have h := ty_f h c9
      refine lv_aload_n hx hb dX5_make_146 rfl (lv_at hl 0 rfl) ?_
      refine tg_X5_trainSize X Y iX5_make_X5 kX5_make_9 dX5_make_147 ?_
      refine lv_aload_n hx hb dX5_make_150 rfl (lv_at hl 0 rfl) ?_
      refine tg_X5_trains (v := (S 50 0)) X Y iX5_make_X5 kX5_make_5 rfl dX5_make_151 ?_
      refine lv_iconst (v := (1 : Int32)) hx hb dX5_make_154 (by decide) ?_
      refine lv_isub hx hb dX5_make_155 ?_
      refine ty_iald (v := (S 41 ((S 50 0) - (1 : Int32)).toNatClampNeg)) X Y 12 41 41 rfl h.1 rfl dX5_make_156 ?_
      have h := h.2
      refine lv_aload_n hx hb dX5_make_157 rfl (lv_at hl 0 rfl) ?_
      refine tg_X5_length (v := (S 51 0)) X Y iX5_make_X5 kX5_make_10 rfl dX5_make_158 ?_
      refine lv_icmp_lt (tgt := 171) hx hb dX5_make_161 (by decide) (fun c9 => ?_) (fun c9 => ?_)
      · have h := ty_t h c9
        refine lv_aload_n hx hb dX5_make_171 rfl (lv_at hl 0 rfl) ?_
        refine lv_aload_n hx hb dX5_make_172 rfl (lv_at hl 0 rfl) ?_
        refine tg_X5_trains (v := (S 50 0)) X Y iX5_make_X5 kX5_make_5 rfl dX5_make_173 ?_
        refine lv_iconst (v := (1 : Int32)) hx hb dX5_make_176 (by decide) ?_
        refine lv_isub hx hb dX5_make_177 ?_
        refine lv_aload_n hx hb dX5_make_178 rfl (lv_at hl 0 rfl) ?_
        refine ty_Vi (As := []) (b := 0) (rest := [.int ((S 50 0) - (1 : Int32)), .ref (q 0)]) X Y (cX5_freeCar_C l D cA q S  _ h) rfl rfl (fun hts => cwV 0 hts gX5_make_X5_freeCar rfl rfl rfl (by decide +kernel) ⟨Nat.le_of_ble_eq_true rfl, Nat.le_of_ble_eq_true rfl⟩) rfl hl.1 (Nat.le_of_ble_eq_true rfl) dX5_make_179 ⟨Nat.zero_le _, Nat.zero_le _⟩ (fun r7 S7 H locs h Y => ?_)
        refine ty_Vv (As := [.int ((S 50 0) - (1 : Int32)), .int r7]) (b := 0) (rest := []) X Y (cX5_couple_C l D cA q S7 ((S 50 0) - (1 : Int32)) r7 _ h) rfl rfl (fun hts => cwV 2 hts gX5_make_X5_couple rfl rfl rfl (by decide +kernel) ⟨Nat.le_of_ble_eq_true rfl, Nat.le_of_ble_eq_true rfl⟩) rfl hl.1 (Nat.le_of_ble_eq_true rfl) dX5_make_182 ⟨Nat.zero_le _, Nat.zero_le _⟩ (fun S8 H locs h Y => ?_)
        refine lv_iconst (v := (0 : Int32)) hx hb dX5_make_185 (by decide) ?_
        refine lv_istore (lv' := [(7, .int (0 : Int32)), (0, .ref (q 0)), (1, .int x1), (2, .int x2), (3, .int x3), (6, .int x6)]) hx hb dX5_make_186 hl (by decide) rfl (fun ls hl => ?_)
        obtain ⟨n9, h⟩ := h
        exact wlX5_make_188 X  n9 _ _ _ _ _ _ _ _ h Y (lv_sub hl [1, 2, 3, 4, 0] rfl)
      · have h := ty_f h c9
        refine lv_aload_n hx hb dX5_make_164 rfl (lv_at hl 0 rfl) ?_
        refine ty_Vv (As := []) (b := 0) (rest := []) X Y (cX5_newTrain_C l D cA q S  _ h) rfl rfl (fun hts => cwV 0 hts gX5_make_X5_newTrain rfl rfl rfl (by decide +kernel) ⟨Nat.le_of_ble_eq_true rfl, Nat.le_of_ble_eq_true rfl⟩) rfl hl.1 (Nat.le_of_ble_eq_true rfl) dX5_make_165 ⟨Nat.zero_le _, Nat.zero_le _⟩ (fun S9 H locs h Y => ?_)
        refine lv_goto (tgt := 185) hx hb dX5_make_168 (by decide) ?_
        refine lv_iconst (v := (0 : Int32)) hx hb dX5_make_185 (by decide) ?_
        refine lv_istore (lv' := [(7, .int (0 : Int32)), (0, .ref (q 0)), (1, .int x1), (2, .int x2), (3, .int x3), (6, .int x6)]) hx hb dX5_make_186 hl (by decide) rfl (fun ls hl => ?_)
        obtain ⟨n9, h⟩ := h
        exact wlX5_make_188 X  n9 _ _ _ _ _ _ _ _ h Y (lv_sub hl [1, 2, 3, 4, 0] rfl)
def jX5_make_111 (K : ty_S → Int32 → Prop)  (x1 : Int32) (x2 : Int32) (x3 : Int32) (x4 : Int32) (S : ty_S) : Prop :=
  (eX5_lastHasRoom S x4 (fun S3 r3 => (if r3 = (0 : Int32) then (eX5_freeCars S3  (fun S10 r10 => (if (2 : Int32) ≤ r10 then jX5_make_134 K  x1 x2 x3 r3 S10 else K S10 (-1 : Int32)))) else jX5_make_134 K  x1 x2 x3 r3 S3)))
set_option maxHeartbeats 4000000 in
set_option maxRecDepth 100000 in
theorem wjX5_make_111 {p : Program} {l : Launch} {e : Env} {s : State} {m : MethodId} {args : Array Value} {below : List Frame} {meth : Method} {c : Code} {D : va_G} {cA : Nat → ClassId} {q : Nat → Nat} {K : ty_S → Int32 → Prop}  (X : ty_X D cA p s m args meth c cX5_make 9 (some .int) wsX5_make RX5)  (x1 : Int32) (x2 : Int32) (x3 : Int32) (x4 : Int32) (S : ty_S) (H : Heap) (locs : List Loc) (ls : Array Slot) (h : jX5_make_111 K  x1 x2 x3 x4 S) (Y : ty_Y D cA q ty_LM S s H locs) (hl : lv_has ls 9 [(0, .ref (q 0)), (1, .int x1), (2, .int x2), (3, .int x3), (4, .int x4)]) : W p l e rX5_make s m args below meth c H locs 0 0 (ty_MI D cA q ty_LM K below args s) (F0 m 111 ls []) := by
  have hx := X.1.1
  have hb := X.1.2.1
  unfold jX5_make_111 at h
  refine lv_aload_n hx hb dX5_make_111 rfl (lv_at hl 0 rfl) ?_
  refine lv_iload hx hb dX5_make_112 (lv_at hl 4 rfl) ?_
  refine ty_Vi (As := [.int x4]) (b := 0) (rest := []) X Y (cX5_lastHasRoom_C l D cA q S x4 _ h) rfl rfl (fun hts => cwV 1 hts gX5_make_X5_lastHasRoom rfl rfl rfl (by decide +kernel) ⟨Nat.le_of_ble_eq_true rfl, Nat.le_of_ble_eq_true rfl⟩) rfl hl.1 (Nat.le_of_ble_eq_true rfl) dX5_make_114 ⟨Nat.zero_le _, Nat.zero_le _⟩ (fun r3 S3 H locs h Y => ?_)
  refine lv_istore (lv' := [(6, .int r3), (0, .ref (q 0)), (1, .int x1), (2, .int x2), (3, .int x3), (4, .int x4)]) hx hb dX5_make_117 hl (by decide) rfl (fun ls hl => ?_)
  refine lv_iload hx hb dX5_make_119 (lv_at hl 0 rfl) ?_
  refine lv_if_ne (tgt := 134) hx hb dX5_make_121 (by decide) (fun c9 => ?_) (fun c9 => ?_)
  · have h := ty_f h c9
    exact wjX5_make_134 X  _ _ _ _ _ _ _ _ h Y (lv_sub hl [1, 2, 3, 4, 0] rfl)
  · have h := ty_t h c9
    refine lv_aload_n hx hb dX5_make_124 rfl (lv_at hl 1 rfl) ?_
    refine ty_Vi (As := []) (b := 0) (rest := []) X Y (cX5_freeCars_C l D cA q S3  _ h) rfl rfl (fun hts => cwV 0 hts gX5_make_X5_freeCars rfl rfl rfl (by decide +kernel) ⟨Nat.le_of_ble_eq_true rfl, Nat.le_of_ble_eq_true rfl⟩) rfl hl.1 (Nat.le_of_ble_eq_true rfl) dX5_make_125 ⟨Nat.zero_le _, Nat.zero_le _⟩ (fun r10 S10 H locs h Y => ?_)
    refine lv_iconst (v := (2 : Int32)) hx hb dX5_make_128 (by decide) ?_
    refine lv_icmp_ge (tgt := 134) hx hb dX5_make_129 (by decide) (fun c9 => ?_) (fun c9 => ?_)
    · have h := ty_t h c9
      exact wjX5_make_134 X  _ _ _ _ _ _ _ _ h Y (lv_sub hl [1, 2, 3, 4, 0] rfl)
    · have h := ty_f h c9
      refine lv_iconst (v := (-1 : Int32)) hx hb dX5_make_132 (by decide) ?_
      exact ty_iret X Y h dX5_make_133
def lX5_make_68 (K : ty_S → Int32 → Prop)  : Nat → Int32 → Int32 → Int32 → Int32 → Int32 → Int32 → ty_S → Prop
  | 0, _, _, _, _, _, _, _ => False
  | n + 1, x1, x2, x3, x4, x5, x6, S => (if x5 ≤ x6 then jX5_make_111 K  x1 x2 x3 x4 S else (eX5_lastHasRoom S x4 (fun S11 r11 => (if r11 = (0 : Int32) then (eX5_freeCars S11  (fun S12 r12 => (if (2 : Int32) ≤ r12 then jX5_make_111 K  x1 x2 x3 x4 S12 else (eX5_maySteps S12  (fun S13 r13 => (if r13 = (0 : Int32) then jX5_make_111 K  x1 x2 x3 x4 S13 else (eX5_oneStep S13  (fun S14 r14 => lX5_make_68 K  n x1 x2 x3 x4 x5 (x6 + (1 : Int32)) S14)))))))) else jX5_make_111 K  x1 x2 x3 x4 S11))))
set_option maxHeartbeats 4000000 in
set_option maxRecDepth 100000 in
theorem wlX5_make_68 {p : Program} {l : Launch} {e : Env} {s : State} {m : MethodId} {args : Array Value} {below : List Frame} {meth : Method} {c : Code} {D : va_G} {cA : Nat → ClassId} {q : Nat → Nat} {K : ty_S → Int32 → Prop}  (X : ty_X D cA p s m args meth c cX5_make 9 (some .int) wsX5_make RX5)  : ∀ (n : Nat) (x1 : Int32) (x2 : Int32) (x3 : Int32) (x4 : Int32) (x5 : Int32) (x6 : Int32) (S : ty_S) (H : Heap) (locs : List Loc) (ls : Array Slot), lX5_make_68 K  n x1 x2 x3 x4 x5 x6 S → ty_Y D cA q ty_LM S s H locs → lv_has ls 9 [(0, .ref (q 0)), (1, .int x1), (2, .int x2), (3, .int x3), (4, .int x4), (5, .int x5), (6, .int x6)] → W p l e rX5_make s m args below meth c H locs 0 0 (ty_MI D cA q ty_LM K below args s) (F0 m 68 ls []) := by
  have hx := X.1.1
  have hb := X.1.2.1
  intro n
  induction n with
  | zero =>
    intro x1 x2 x3 x4 x5 x6 S H locs ls h
    exact False.elim h
  | succ n ih =>
    intro x1 x2 x3 x4 x5 x6 S H locs ls h Y hl
    unfold lX5_make_68 at h
    refine lv_iload hx hb dX5_make_68 (lv_at hl 6 rfl) ?_
    refine lv_iload hx hb dX5_make_70 (lv_at hl 5 rfl) ?_
    refine lv_icmp_ge (tgt := 111) hx hb dX5_make_72 (by decide) (fun c9 => ?_) (fun c9 => ?_)
    · have h := ty_t h c9
      exact wjX5_make_111 X  _ _ _ _ _ _ _ _ h Y (lv_sub hl [0, 1, 2, 3, 4] rfl)
    · have h := ty_f h c9
      refine lv_aload_n hx hb dX5_make_75 rfl (lv_at hl 0 rfl) ?_
      refine lv_iload hx hb dX5_make_76 (lv_at hl 4 rfl) ?_
      refine ty_Vi (As := [.int x4]) (b := 0) (rest := []) X Y (cX5_lastHasRoom_C l D cA q S x4 _ h) rfl rfl (fun hts => cwV 1 hts gX5_make_X5_lastHasRoom rfl rfl rfl (by decide +kernel) ⟨Nat.le_of_ble_eq_true rfl, Nat.le_of_ble_eq_true rfl⟩) rfl hl.1 (Nat.le_of_ble_eq_true rfl) dX5_make_78 ⟨Nat.zero_le _, Nat.zero_le _⟩ (fun r11 S11 H locs h Y => ?_)
      refine lv_if_ne (tgt := 111) hx hb dX5_make_81 (by decide) (fun c9 => ?_) (fun c9 => ?_)
      · have h := ty_f h c9
        exact wjX5_make_111 X  _ _ _ _ _ _ _ _ h Y (lv_sub hl [0, 1, 2, 3, 4] rfl)
      · have h := ty_t h c9
        refine lv_aload_n hx hb dX5_make_84 rfl (lv_at hl 0 rfl) ?_
        refine ty_Vi (As := []) (b := 0) (rest := []) X Y (cX5_freeCars_C l D cA q S11  _ h) rfl rfl (fun hts => cwV 0 hts gX5_make_X5_freeCars rfl rfl rfl (by decide +kernel) ⟨Nat.le_of_ble_eq_true rfl, Nat.le_of_ble_eq_true rfl⟩) rfl hl.1 (Nat.le_of_ble_eq_true rfl) dX5_make_85 ⟨Nat.zero_le _, Nat.zero_le _⟩ (fun r12 S12 H locs h Y => ?_)
        refine lv_iconst (v := (2 : Int32)) hx hb dX5_make_88 (by decide) ?_
        refine lv_icmp_ge (tgt := 111) hx hb dX5_make_89 (by decide) (fun c9 => ?_) (fun c9 => ?_)
        · have h := ty_t h c9
          exact wjX5_make_111 X  _ _ _ _ _ _ _ _ h Y (lv_sub hl [0, 1, 2, 3, 4] rfl)
        · have h := ty_f h c9
          refine lv_aload_n hx hb dX5_make_92 rfl (lv_at hl 0 rfl) ?_
          refine ty_Vi (As := []) (b := 0) (rest := []) X Y (cX5_maySteps_C l D cA q S12  _ h) rfl rfl (fun hts => cwV 0 hts gX5_make_X5_maySteps rfl rfl rfl (by decide +kernel) ⟨Nat.le_of_ble_eq_true rfl, Nat.le_of_ble_eq_true rfl⟩) rfl hl.1 (Nat.le_of_ble_eq_true rfl) dX5_make_93 ⟨Nat.zero_le _, Nat.zero_le _⟩ (fun r13 S13 H locs h Y => ?_)
          refine lv_if_eq (tgt := 111) hx hb dX5_make_96 (by decide) (fun c9 => ?_) (fun c9 => ?_)
          · have h := ty_t h c9
            exact wjX5_make_111 X  _ _ _ _ _ _ _ _ h Y (lv_sub hl [0, 1, 2, 3, 4] rfl)
          · have h := ty_f h c9
            refine lv_aload_n hx hb dX5_make_99 rfl (lv_at hl 0 rfl) ?_
            refine ty_Vi (As := []) (b := 0) (rest := []) X Y (cX5_oneStep_C l D cA q S13  _ h) rfl rfl (fun hts => cwV 0 hts gX5_make_X5_oneStep rfl rfl rfl (by decide +kernel) ⟨Nat.le_of_ble_eq_true rfl, Nat.le_of_ble_eq_true rfl⟩) rfl hl.1 (Nat.le_of_ble_eq_true rfl) dX5_make_100 ⟨Nat.zero_le _, Nat.zero_le _⟩ (fun r14 S14 H locs h Y => ?_)
            refine lv_istore (lv' := [(7, .int r14), (0, .ref (q 0)), (1, .int x1), (2, .int x2), (3, .int x3), (4, .int x4), (5, .int x5), (6, .int x6)]) hx hb dX5_make_103 hl (by decide) rfl (fun ls hl => ?_)
            refine lv_iinc (v := (x6 + (1 : Int32))) (lv' := [(6, .int (x6 + (1 : Int32))), (7, .int r14), (0, .ref (q 0)), (1, .int x1), (2, .int x2), (3, .int x3), (4, .int x4), (5, .int x5)]) hx hb dX5_make_105 hl (k := 7) rfl rfl (by decide) rfl (fun ls hl => ?_)
            refine lv_goto (tgt := 68) hx hb dX5_make_108 (by decide) ?_
            exact ih _ _ _ _ _ _ _ _ _ _ h Y (lv_sub hl [2, 3, 4, 5, 6, 7, 0] rfl)
def jX5_make_37 (K : ty_S → Int32 → Prop)  (x1 : Int32) (x2 : Int32) (x3 : Int32) (t0 : Int32) (S : ty_S) : Prop :=
  (if t0 ≤ (0 : Int32) then (eX5_freeCars (ty_st S 60 0 t0)  (fun S2 r2 => ∃ n9, lX5_make_68 K  n9 x1 x2 x3 (((2 : Int32) + x2) + x3) ((40 : Int32) - r2) (0 : Int32) S2)) else K (ty_st S 60 0 t0) (0 : Int32))
set_option maxHeartbeats 4000000 in
set_option maxRecDepth 100000 in
theorem wjX5_make_37 {p : Program} {l : Launch} {e : Env} {s : State} {m : MethodId} {args : Array Value} {below : List Frame} {meth : Method} {c : Code} {D : va_G} {cA : Nat → ClassId} {q : Nat → Nat} {K : ty_S → Int32 → Prop}  (X : ty_X D cA p s m args meth c cX5_make 9 (some .int) wsX5_make RX5)  (x1 : Int32) (x2 : Int32) (x3 : Int32) (t0 : Int32) (S : ty_S) (H : Heap) (locs : List Loc) (ls : Array Slot) (h : jX5_make_37 K  x1 x2 x3 t0 S) (Y : ty_Y D cA q ty_LM S s H locs) (hl : lv_has ls 9 [(0, .ref (q 0)), (1, .int x1), (2, .int x2), (3, .int x3)]) : W p l e rX5_make s m args below meth c H locs 0 0 (ty_MI D cA q ty_LM K below args s) (F0 m 37 ls [.int t0, .ref (q 0)]) := by
  have hx := X.1.1
  have hb := X.1.2.1
  unfold jX5_make_37 at h
  refine tp_X5_thrown X Y iX5_make_X5 kX5_make_0 dX5_make_37 (fun H locs Y => ?_)
  refine lv_aload_n hx hb dX5_make_40 rfl (lv_at hl 0 rfl) ?_
  refine tg_X5_thrown (v := t0) X Y iX5_make_X5 kX5_make_0 rfl dX5_make_41 ?_
  refine lv_if_le (tgt := 49) hx hb dX5_make_44 (by decide) (fun c9 => ?_) (fun c9 => ?_)
  · have h := ty_t h c9
    refine lv_iconst (v := (2 : Int32)) hx hb dX5_make_49 (by decide) ?_
    refine lv_iload_n hx hb dX5_make_50 rfl (lv_at hl 2 rfl) ?_
    refine lv_iadd hx hb dX5_make_51 ?_
    refine lv_iload_n hx hb dX5_make_52 rfl (lv_at hl 3 rfl) ?_
    refine lv_iadd hx hb dX5_make_53 ?_
    refine lv_istore (lv' := [(4, .int (((2 : Int32) + x2) + x3)), (0, .ref (q 0)), (1, .int x1), (2, .int x2), (3, .int x3)]) hx hb dX5_make_54 hl (by decide) rfl (fun ls hl => ?_)
    refine lv_bipush (v := (40 : Int32)) hx hb dX5_make_56 (by decide) ?_
    refine lv_aload_n hx hb dX5_make_58 rfl (lv_at hl 1 rfl) ?_
    refine ty_Vi (As := []) (b := 0) (rest := [.int (40 : Int32)]) X Y (cX5_freeCars_C l D cA q (ty_st S 60 0 t0)  _ h) rfl rfl (fun hts => cwV 0 hts gX5_make_X5_freeCars rfl rfl rfl (by decide +kernel) ⟨Nat.le_of_ble_eq_true rfl, Nat.le_of_ble_eq_true rfl⟩) rfl hl.1 (Nat.le_of_ble_eq_true rfl) dX5_make_59 ⟨Nat.zero_le _, Nat.zero_le _⟩ (fun r2 S2 H locs h Y => ?_)
    refine lv_isub hx hb dX5_make_62 ?_
    refine lv_istore (lv' := [(5, .int ((40 : Int32) - r2)), (4, .int (((2 : Int32) + x2) + x3)), (0, .ref (q 0)), (1, .int x1), (2, .int x2), (3, .int x3)]) hx hb dX5_make_63 hl (by decide) rfl (fun ls hl => ?_)
    refine lv_iconst (v := (0 : Int32)) hx hb dX5_make_65 (by decide) ?_
    refine lv_istore (lv' := [(6, .int (0 : Int32)), (5, .int ((40 : Int32) - r2)), (4, .int (((2 : Int32) + x2) + x3)), (0, .ref (q 0)), (1, .int x1), (2, .int x2), (3, .int x3)]) hx hb dX5_make_66 hl (by decide) rfl (fun ls hl => ?_)
    obtain ⟨n9, h⟩ := h
    exact wlX5_make_68 X  n9 _ _ _ _ _ _ _ _ _ _ h Y (lv_sub hl [3, 4, 5, 6, 2, 1, 0] rfl)
  · have h := ty_f h c9
    refine lv_iconst (v := (0 : Int32)) hx hb dX5_make_47 (by decide) ?_
    exact ty_iret X Y h dX5_make_48
def jX5_make_32 (K : ty_S → Int32 → Prop)  (x1 : Int32) (x2 : Int32) (x3 : Int32) (S : ty_S) : Prop :=
  jX5_make_37 K  x1 x2 x3 (2 : Int32) S
set_option maxHeartbeats 4000000 in
set_option maxRecDepth 100000 in
theorem wjX5_make_32 {p : Program} {l : Launch} {e : Env} {s : State} {m : MethodId} {args : Array Value} {below : List Frame} {meth : Method} {c : Code} {D : va_G} {cA : Nat → ClassId} {q : Nat → Nat} {K : ty_S → Int32 → Prop}  (X : ty_X D cA p s m args meth c cX5_make 9 (some .int) wsX5_make RX5)  (x1 : Int32) (x2 : Int32) (x3 : Int32) (S : ty_S) (H : Heap) (locs : List Loc) (ls : Array Slot) (h : jX5_make_32 K  x1 x2 x3 S) (Y : ty_Y D cA q ty_LM S s H locs) (hl : lv_has ls 9 [(0, .ref (q 0)), (1, .int x1), (2, .int x2), (3, .int x3)]) : W p l e rX5_make s m args below meth c H locs 0 0 (ty_MI D cA q ty_LM K below args s) (F0 m 32 ls [.ref (q 0)]) := by
  have hx := X.1.1
  have hb := X.1.2.1
  unfold jX5_make_32 at h
  refine lv_iconst (v := (2 : Int32)) hx hb dX5_make_32 (by decide) ?_
  refine lv_goto (tgt := 37) hx hb dX5_make_33 (by decide) ?_
  exact wjX5_make_37 X  _ _ _ _ _ _ _ _ h Y (lv_sub hl [0, 1, 2, 3] rfl)
def eX5_make (S : ty_S) (x1 : Int32) (x2 : Int32) (x3 : Int32) (K : ty_S → Int32 → Prop) : Prop :=
  (eX5_noRegister S x1 (fun S1 r1 => (if r1 = (0 : Int32) then (if x2 < (0 : Int32) then jX5_make_32 K  x1 x2 x3 S1 else (if (12 : Int32) < x2 then jX5_make_32 K  x1 x2 x3 S1 else (if x3 < (0 : Int32) then jX5_make_32 K  x1 x2 x3 S1 else (if x3 ≤ (12 : Int32) then jX5_make_37 K  x1 x2 x3 (0 : Int32) S1 else jX5_make_32 K  x1 x2 x3 S1)))) else jX5_make_37 K  x1 x2 x3 (1 : Int32) S1)))
set_option maxHeartbeats 4000000 in
set_option maxRecDepth 100000 in
theorem cX5_make_C (l : Launch) (D : va_G) (cA : Nat → ClassId) (q : Nat → Nat) (S : ty_S) (x1 : Int32) (x2 : Int32) (x3 : Int32) (K : ty_S → Int32 → Prop) (h : eX5_make S x1 x2 x3 K) : ∀ sz, Met l yX5_make wsX5_make rX5_make (ty_Pc D cA q ty_LM S sz [.ref (q 0), .int x1, .int x2, .int x3]) (ty_Qi D cA q ty_LM sz K) 0 0 (ty_A q ty_LM.length sz) := by
  refine ty_ofM (ret := (some .int)) (maxL := 9) (cc := cX5_make) (own := RX5) (Qc := fun sz => ty_Qi D cA q ty_LM sz K) (by decide +kernel) rfl (Nat.le_of_ble_eq_true rfl) rfl ?_
  intro p e s m args below meth c ls X hl Y
  have hx := X.1.1
  have hb := X.1.2.1
  have hl : lv_has ls 9 [(0, .ref (q 0)), (1, .int x1), (2, .int x2), (3, .int x3)] := hl
  unfold eX5_make at h
  refine lv_aload_n hx hb dX5_make_0 rfl (lv_at hl 0 rfl) ?_
  refine lv_iload_n hx hb dX5_make_1 rfl (lv_at hl 1 rfl) ?_
  refine ty_Si (As := [.int x1]) (rest := [.ref (q 0)]) X Y (cX5_noRegister_C l D cA q S x1 _ h) (fun hts => va_cwS 1 hts gX5_make_X5_noRegister rfl rfl rfl (by decide +kernel) ⟨Nat.le_of_ble_eq_true rfl, Nat.le_of_ble_eq_true rfl⟩) rfl hl.1 (Nat.le_of_ble_eq_true rfl) dX5_make_2 ⟨Nat.zero_le _, Nat.zero_le _⟩ (fun r1 S1 H locs h Y => ?_)
  refine lv_if_eq (tgt := 12) hx hb dX5_make_5 (by decide) (fun c9 => ?_) (fun c9 => ?_)
  · have h := ty_t h c9
    refine lv_iload_n hx hb dX5_make_12 rfl (lv_at hl 2 rfl) ?_
    refine lv_if_lt (tgt := 32) hx hb dX5_make_13 (by decide) (fun c9 => ?_) (fun c9 => ?_)
    · have h := ty_t h c9
      exact wjX5_make_32 X  _ _ _ _ _ _ _ h Y (lv_sub hl [0, 1, 2, 3] rfl)
    · have h := ty_f h c9
      refine lv_iload_n hx hb dX5_make_16 rfl (lv_at hl 2 rfl) ?_
      refine lv_bipush (v := (12 : Int32)) hx hb dX5_make_17 (by decide) ?_
      refine lv_icmp_gt (tgt := 32) hx hb dX5_make_19 (by decide) (fun c9 => ?_) (fun c9 => ?_)
      · have h := ty_t h c9
        exact wjX5_make_32 X  _ _ _ _ _ _ _ h Y (lv_sub hl [0, 1, 2, 3] rfl)
      · have h := ty_f h c9
        refine lv_iload_n hx hb dX5_make_22 rfl (lv_at hl 3 rfl) ?_
        refine lv_if_lt (tgt := 32) hx hb dX5_make_23 (by decide) (fun c9 => ?_) (fun c9 => ?_)
        · have h := ty_t h c9
          exact wjX5_make_32 X  _ _ _ _ _ _ _ h Y (lv_sub hl [0, 1, 2, 3] rfl)
        · have h := ty_f h c9
          refine lv_iload_n hx hb dX5_make_26 rfl (lv_at hl 3 rfl) ?_
          refine lv_bipush (v := (12 : Int32)) hx hb dX5_make_27 (by decide) ?_
          refine lv_icmp_le (tgt := 36) hx hb dX5_make_29 (by decide) (fun c9 => ?_) (fun c9 => ?_)
          · have h := ty_t h c9
            refine lv_iconst (v := (0 : Int32)) hx hb dX5_make_36 (by decide) ?_
            exact wjX5_make_37 X  _ _ _ _ _ _ _ _ h Y (lv_sub hl [0, 1, 2, 3] rfl)
          · have h := ty_f h c9
            exact wjX5_make_32 X  _ _ _ _ _ _ _ h Y (lv_sub hl [0, 1, 2, 3] rfl)
  · have h := ty_f h c9
    refine lv_iconst (v := (1 : Int32)) hx hb dX5_make_8 (by decide) ?_
    refine lv_goto (tgt := 37) hx hb dX5_make_9 (by decide) ?_
    exact wjX5_make_37 X  _ _ _ _ _ _ _ _ h Y (lv_sub hl [0, 1, 2, 3] rfl)

abbrev rX5_labelOf : Room := { frames := 0, cells := 0, slots := 0, locals := 0 }
theorem kX5_labelOf_0 : Cond.fieldLink RX5 7 "TrainYardModel" "label" "[I" ∈ wsX5_labelOf := ty_m 1 (by decide +kernel)
theorem iX5_labelOf_X5 : ∀ w ∈ wsX50, w ∈ wsX5_labelOf := ty_inp _ [2, 3, 4, 5, 6, 7, 8, 9, 10, 11, 12, 13, 14, 15, 16, 17, 18, 19, 20, 21, 22, 23, 24, 25, 26, 27, 28, 29, 30, 31, 32] (by decide +kernel)
def eX5_labelOf (S : ty_S) (x1 : Int32) (K : ty_S → Int32 → Prop) : Prop :=
  (if (0 : Int32) ≤ x1 then (vp_in x1 640 ∧ K S (S 30 x1.toNatClampNeg)) else K S (0 : Int32))
set_option maxHeartbeats 4000000 in
set_option maxRecDepth 100000 in
theorem cX5_labelOf_C (l : Launch) (D : va_G) (cA : Nat → ClassId) (q : Nat → Nat) (S : ty_S) (x1 : Int32) (K : ty_S → Int32 → Prop) (h : eX5_labelOf S x1 K) : ∀ sz, Met l yX5_labelOf wsX5_labelOf rX5_labelOf (ty_Pc D cA q ty_LM S sz [.ref (q 0), .int x1]) (ty_Qi D cA q ty_LM sz K) 0 0 (ty_A q ty_LM.length sz) := by
  refine ty_ofM (ret := (some .int)) (maxL := 2) (cc := cX5_labelOf) (own := RX5) (Qc := fun sz => ty_Qi D cA q ty_LM sz K) (by decide +kernel) rfl (Nat.le_of_ble_eq_true rfl) rfl ?_
  intro p e s m args below meth c ls X hl Y
  have hx := X.1.1
  have hb := X.1.2.1
  have hl : lv_has ls 2 [(0, .ref (q 0)), (1, .int x1)] := hl
  unfold eX5_labelOf at h
  refine lv_iload_n hx hb dX5_labelOf_0 rfl (lv_at hl 1 rfl) ?_
  refine lv_if_ge (tgt := 8) hx hb dX5_labelOf_1 (by decide) (fun c9 => ?_) (fun c9 => ?_)
  · have h := ty_t h c9
    refine lv_aload_n hx hb dX5_labelOf_8 rfl (lv_at hl 0 rfl) ?_
    refine tg_X5_label X Y iX5_labelOf_X5 kX5_labelOf_0 dX5_labelOf_9 ?_
    refine lv_iload_n hx hb dX5_labelOf_12 rfl (lv_at hl 1 rfl) ?_
    refine ty_iald (v := (S 30 x1.toNatClampNeg)) X Y 1 640 30 rfl h.1 rfl dX5_labelOf_13 ?_
    have h := h.2
    exact ty_iret X Y h dX5_labelOf_14
  · have h := ty_f h c9
    refine lv_iconst (v := (0 : Int32)) hx hb dX5_labelOf_4 (by decide) ?_
    refine lv_goto (tgt := 14) hx hb dX5_labelOf_5 (by decide) ?_
    exact ty_iret X Y h dX5_labelOf_14

abbrev rX5_copy : Room := { frames := 1, cells := 0, slots := 0, locals := 21 }
theorem kX5_copy_0 : Cond.fieldLink RX5 75 "TrainYardModel" "thrown" "I" ∈ wsX5_copy := ty_m 1 (by decide +kernel)
theorem kX5_copy_1 : Cond.fieldLink RX5 49 "TrainYardModel" "register" "[I" ∈ wsX5_copy := ty_m 2 (by decide +kernel)
theorem iX5_copy_X5 : ∀ w ∈ wsX50, w ∈ wsX5_copy := ty_inp _ [12, 13, 14, 15, 16, 17, 18, 19, 20, 21, 22, 23, 24, 25, 26, 27, 28, 29, 30, 31, 32, 33, 34, 35, 36, 37, 38, 39, 40, 41, 42] (by decide +kernel)
def jX5_copy_20 (K : ty_S → Int32 → Prop)  (x1 : Int32) (x2 : Int32) (t0 : Int32) (S : ty_S) : Prop :=
  (if t0 ≤ (0 : Int32) then (vp_in x2 16 ∧ (vp_in x1 16 ∧ (vp_in x1 16 ∧ (eX5_labelOf (ty_st (ty_st S 60 0 t0) 43 x1.toNatClampNeg (S 43 x2.toNatClampNeg)) ((ty_st S 43 x1.toNatClampNeg (S 43 x2.toNatClampNeg)) 43 x1.toNatClampNeg) (fun S2 r2 => K S2 r2))))) else K (ty_st S 60 0 t0) (0 : Int32))
set_option maxHeartbeats 4000000 in
set_option maxRecDepth 100000 in
theorem wjX5_copy_20 {p : Program} {l : Launch} {e : Env} {s : State} {m : MethodId} {args : Array Value} {below : List Frame} {meth : Method} {c : Code} {D : va_G} {cA : Nat → ClassId} {q : Nat → Nat} {K : ty_S → Int32 → Prop}  (X : ty_X D cA p s m args meth c cX5_copy 3 (some .int) wsX5_copy RX5)  (x1 : Int32) (x2 : Int32) (t0 : Int32) (S : ty_S) (H : Heap) (locs : List Loc) (ls : Array Slot) (h : jX5_copy_20 K  x1 x2 t0 S) (Y : ty_Y D cA q ty_LM S s H locs) (hl : lv_has ls 3 [(0, .ref (q 0)), (1, .int x1), (2, .int x2)]) : W p l e rX5_copy s m args below meth c H locs 0 0 (ty_MI D cA q ty_LM K below args s) (F0 m 20 ls [.int t0, .ref (q 0)]) := by
  have hx := X.1.1
  have hb := X.1.2.1
  unfold jX5_copy_20 at h
  refine tp_X5_thrown X Y iX5_copy_X5 kX5_copy_0 dX5_copy_20 (fun H locs Y => ?_)
  refine lv_aload_n hx hb dX5_copy_23 rfl (lv_at hl 0 rfl) ?_
  refine tg_X5_thrown (v := t0) X Y iX5_copy_X5 kX5_copy_0 rfl dX5_copy_24 ?_
  refine lv_if_le (tgt := 32) hx hb dX5_copy_27 (by decide) (fun c9 => ?_) (fun c9 => ?_)
  · have h := ty_t h c9
    refine lv_aload_n hx hb dX5_copy_32 rfl (lv_at hl 0 rfl) ?_
    refine tg_X5_register X Y iX5_copy_X5 kX5_copy_1 dX5_copy_33 ?_
    refine lv_iload_n hx hb dX5_copy_36 rfl (lv_at hl 1 rfl) ?_
    refine lv_aload_n hx hb dX5_copy_37 rfl (lv_at hl 0 rfl) ?_
    refine tg_X5_register X Y iX5_copy_X5 kX5_copy_1 dX5_copy_38 ?_
    refine lv_iload_n hx hb dX5_copy_41 rfl (lv_at hl 2 rfl) ?_
    refine ty_iald (v := (S 43 x2.toNatClampNeg)) X Y 14 16 43 rfl h.1 rfl dX5_copy_42 ?_
    have h := h.2
    refine ty_iast X Y 14 16 43 rfl (by decide) h.1 dX5_copy_43 (fun H locs Y => ?_)
    have h := h.2
    refine lv_aload_n hx hb dX5_copy_44 rfl (lv_at hl 0 rfl) ?_
    refine lv_aload_n hx hb dX5_copy_45 rfl (lv_at hl 0 rfl) ?_
    refine tg_X5_register X Y iX5_copy_X5 kX5_copy_1 dX5_copy_46 ?_
    refine lv_iload_n hx hb dX5_copy_49 rfl (lv_at hl 1 rfl) ?_
    refine ty_iald (v := ((ty_st S 43 x1.toNatClampNeg (S 43 x2.toNatClampNeg)) 43 x1.toNatClampNeg)) X Y 14 16 43 rfl h.1 rfl dX5_copy_50 ?_
    have h := h.2
    refine ty_Vi (As := [.int ((ty_st S 43 x1.toNatClampNeg (S 43 x2.toNatClampNeg)) 43 x1.toNatClampNeg)]) (b := 0) (rest := []) X Y (cX5_labelOf_C l D cA q (ty_st (ty_st S 60 0 t0) 43 x1.toNatClampNeg (S 43 x2.toNatClampNeg)) ((ty_st S 43 x1.toNatClampNeg (S 43 x2.toNatClampNeg)) 43 x1.toNatClampNeg) _ h) rfl rfl (fun hts => cwV 1 hts gX5_copy_X5_labelOf rfl rfl rfl (by decide +kernel) ⟨Nat.le_of_ble_eq_true rfl, Nat.le_of_ble_eq_true rfl⟩) rfl hl.1 (Nat.le_of_ble_eq_true rfl) dX5_copy_51 ⟨Nat.zero_le _, Nat.zero_le _⟩ (fun r2 S2 H locs h Y => ?_)
    exact ty_iret X Y h dX5_copy_54
  · have h := ty_f h c9
    refine lv_iconst (v := (0 : Int32)) hx hb dX5_copy_30 (by decide) ?_
    exact ty_iret X Y h dX5_copy_31
def jX5_copy_15 (K : ty_S → Int32 → Prop)  (x1 : Int32) (x2 : Int32) (S : ty_S) : Prop :=
  jX5_copy_20 K  x1 x2 (1 : Int32) S
set_option maxHeartbeats 4000000 in
set_option maxRecDepth 100000 in
theorem wjX5_copy_15 {p : Program} {l : Launch} {e : Env} {s : State} {m : MethodId} {args : Array Value} {below : List Frame} {meth : Method} {c : Code} {D : va_G} {cA : Nat → ClassId} {q : Nat → Nat} {K : ty_S → Int32 → Prop}  (X : ty_X D cA p s m args meth c cX5_copy 3 (some .int) wsX5_copy RX5)  (x1 : Int32) (x2 : Int32) (S : ty_S) (H : Heap) (locs : List Loc) (ls : Array Slot) (h : jX5_copy_15 K  x1 x2 S) (Y : ty_Y D cA q ty_LM S s H locs) (hl : lv_has ls 3 [(0, .ref (q 0)), (1, .int x1), (2, .int x2)]) : W p l e rX5_copy s m args below meth c H locs 0 0 (ty_MI D cA q ty_LM K below args s) (F0 m 15 ls [.ref (q 0)]) := by
  have hx := X.1.1
  have hb := X.1.2.1
  unfold jX5_copy_15 at h
  refine lv_iconst (v := (1 : Int32)) hx hb dX5_copy_15 (by decide) ?_
  refine lv_goto (tgt := 20) hx hb dX5_copy_16 (by decide) ?_
  exact wjX5_copy_20 X  _ _ _ _ _ _ _ h Y (lv_sub hl [0, 1, 2] rfl)
def eX5_copy (S : ty_S) (x1 : Int32) (x2 : Int32) (K : ty_S → Int32 → Prop) : Prop :=
  (eX5_noRegister S x1 (fun S1 r1 => (if r1 = (0 : Int32) then (eX5_noRegister S1 x2 (fun S3 r3 => (if r3 = (0 : Int32) then jX5_copy_20 K  x1 x2 (0 : Int32) S3 else jX5_copy_15 K  x1 x2 S3))) else jX5_copy_15 K  x1 x2 S1)))
set_option maxHeartbeats 4000000 in
set_option maxRecDepth 100000 in
theorem cX5_copy_C (l : Launch) (D : va_G) (cA : Nat → ClassId) (q : Nat → Nat) (S : ty_S) (x1 : Int32) (x2 : Int32) (K : ty_S → Int32 → Prop) (h : eX5_copy S x1 x2 K) : ∀ sz, Met l yX5_copy wsX5_copy rX5_copy (ty_Pc D cA q ty_LM S sz [.ref (q 0), .int x1, .int x2]) (ty_Qi D cA q ty_LM sz K) 0 0 (ty_A q ty_LM.length sz) := by
  refine ty_ofM (ret := (some .int)) (maxL := 3) (cc := cX5_copy) (own := RX5) (Qc := fun sz => ty_Qi D cA q ty_LM sz K) (by decide +kernel) rfl (Nat.le_of_ble_eq_true rfl) rfl ?_
  intro p e s m args below meth c ls X hl Y
  have hx := X.1.1
  have hb := X.1.2.1
  have hl : lv_has ls 3 [(0, .ref (q 0)), (1, .int x1), (2, .int x2)] := hl
  unfold eX5_copy at h
  refine lv_aload_n hx hb dX5_copy_0 rfl (lv_at hl 0 rfl) ?_
  refine lv_iload_n hx hb dX5_copy_1 rfl (lv_at hl 1 rfl) ?_
  refine ty_Si (As := [.int x1]) (rest := [.ref (q 0)]) X Y (cX5_noRegister_C l D cA q S x1 _ h) (fun hts => va_cwS 1 hts gX5_copy_X5_noRegister rfl rfl rfl (by decide +kernel) ⟨Nat.le_of_ble_eq_true rfl, Nat.le_of_ble_eq_true rfl⟩) rfl hl.1 (Nat.le_of_ble_eq_true rfl) dX5_copy_2 ⟨Nat.zero_le _, Nat.zero_le _⟩ (fun r1 S1 H locs h Y => ?_)
  refine lv_if_ne (tgt := 15) hx hb dX5_copy_5 (by decide) (fun c9 => ?_) (fun c9 => ?_)
  · have h := ty_f h c9
    exact wjX5_copy_15 X  _ _ _ _ _ _ h Y (lv_sub hl [0, 1, 2] rfl)
  · have h := ty_t h c9
    refine lv_iload_n hx hb dX5_copy_8 rfl (lv_at hl 2 rfl) ?_
    refine ty_Si (As := [.int x2]) (rest := [.ref (q 0)]) X Y (cX5_noRegister_C l D cA q S1 x2 _ h) (fun hts => va_cwS 1 hts gX5_copy_X5_noRegister rfl rfl rfl (by decide +kernel) ⟨Nat.le_of_ble_eq_true rfl, Nat.le_of_ble_eq_true rfl⟩) rfl hl.1 (Nat.le_of_ble_eq_true rfl) dX5_copy_9 ⟨Nat.zero_le _, Nat.zero_le _⟩ (fun r3 S3 H locs h Y => ?_)
    refine lv_if_eq (tgt := 19) hx hb dX5_copy_12 (by decide) (fun c9 => ?_) (fun c9 => ?_)
    · have h := ty_t h c9
      refine lv_iconst (v := (0 : Int32)) hx hb dX5_copy_19 (by decide) ?_
      exact wjX5_copy_20 X  _ _ _ _ _ _ _ h Y (lv_sub hl [0, 1, 2] rfl)
    · have h := ty_f h c9
      exact wjX5_copy_15 X  _ _ _ _ _ _ h Y (lv_sub hl [0, 1, 2] rfl)

abbrev rX5_drop : Room := { frames := 1, cells := 0, slots := 0, locals := 21 }
theorem kX5_drop_0 : Cond.fieldLink RX5 75 "TrainYardModel" "thrown" "I" ∈ wsX5_drop := ty_m 1 (by decide +kernel)
theorem kX5_drop_1 : Cond.fieldLink RX5 49 "TrainYardModel" "register" "[I" ∈ wsX5_drop := ty_m 2 (by decide +kernel)
theorem iX5_drop_X5 : ∀ w ∈ wsX50, w ∈ wsX5_drop := ty_inp _ [12, 13, 14, 15, 16, 17, 18, 19, 20, 21, 22, 23, 24, 25, 26, 27, 28, 29, 30, 31, 32, 33, 34, 35, 36, 37, 38, 39, 40, 41, 42] (by decide +kernel)
def jX5_drop_13 (K : ty_S → Int32 → Prop)  (x1 : Int32) (t0 : Int32) (S : ty_S) : Prop :=
  (if t0 ≤ (0 : Int32) then (vp_in x1 16 ∧ (eX5_labelOf (ty_st S 60 0 t0) (S 43 x1.toNatClampNeg) (fun S2 r2 => (vp_in x1 16 ∧ K (ty_st S2 43 x1.toNatClampNeg (-1 : Int32)) r2)))) else K (ty_st S 60 0 t0) (0 : Int32))
set_option maxHeartbeats 4000000 in
set_option maxRecDepth 100000 in
theorem wjX5_drop_13 {p : Program} {l : Launch} {e : Env} {s : State} {m : MethodId} {args : Array Value} {below : List Frame} {meth : Method} {c : Code} {D : va_G} {cA : Nat → ClassId} {q : Nat → Nat} {K : ty_S → Int32 → Prop}  (X : ty_X D cA p s m args meth c cX5_drop 3 (some .int) wsX5_drop RX5)  (x1 : Int32) (t0 : Int32) (S : ty_S) (H : Heap) (locs : List Loc) (ls : Array Slot) (h : jX5_drop_13 K  x1 t0 S) (Y : ty_Y D cA q ty_LM S s H locs) (hl : lv_has ls 3 [(0, .ref (q 0)), (1, .int x1)]) : W p l e rX5_drop s m args below meth c H locs 0 0 (ty_MI D cA q ty_LM K below args s) (F0 m 13 ls [.int t0, .ref (q 0)]) := by
  have hx := X.1.1
  have hb := X.1.2.1
  unfold jX5_drop_13 at h
  refine tp_X5_thrown X Y iX5_drop_X5 kX5_drop_0 dX5_drop_13 (fun H locs Y => ?_)
  refine lv_aload_n hx hb dX5_drop_16 rfl (lv_at hl 0 rfl) ?_
  refine tg_X5_thrown (v := t0) X Y iX5_drop_X5 kX5_drop_0 rfl dX5_drop_17 ?_
  refine lv_if_le (tgt := 25) hx hb dX5_drop_20 (by decide) (fun c9 => ?_) (fun c9 => ?_)
  · have h := ty_t h c9
    refine lv_aload_n hx hb dX5_drop_25 rfl (lv_at hl 0 rfl) ?_
    refine lv_aload_n hx hb dX5_drop_26 rfl (lv_at hl 0 rfl) ?_
    refine tg_X5_register X Y iX5_drop_X5 kX5_drop_1 dX5_drop_27 ?_
    refine lv_iload_n hx hb dX5_drop_30 rfl (lv_at hl 1 rfl) ?_
    refine ty_iald (v := (S 43 x1.toNatClampNeg)) X Y 14 16 43 rfl h.1 rfl dX5_drop_31 ?_
    have h := h.2
    refine ty_Vi (As := [.int (S 43 x1.toNatClampNeg)]) (b := 0) (rest := []) X Y (cX5_labelOf_C l D cA q (ty_st S 60 0 t0) (S 43 x1.toNatClampNeg) _ h) rfl rfl (fun hts => cwV 1 hts gX5_drop_X5_labelOf rfl rfl rfl (by decide +kernel) ⟨Nat.le_of_ble_eq_true rfl, Nat.le_of_ble_eq_true rfl⟩) rfl hl.1 (Nat.le_of_ble_eq_true rfl) dX5_drop_32 ⟨Nat.zero_le _, Nat.zero_le _⟩ (fun r2 S2 H locs h Y => ?_)
    refine lv_istore_n (lv' := [(2, .int r2), (0, .ref (q 0)), (1, .int x1)]) hx hb dX5_drop_35 rfl hl (by decide) rfl (fun ls hl => ?_)
    refine lv_aload_n hx hb dX5_drop_36 rfl (lv_at hl 1 rfl) ?_
    refine tg_X5_register X Y iX5_drop_X5 kX5_drop_1 dX5_drop_37 ?_
    refine lv_iload_n hx hb dX5_drop_40 rfl (lv_at hl 2 rfl) ?_
    refine lv_iconst (v := (-1 : Int32)) hx hb dX5_drop_41 (by decide) ?_
    refine ty_iast X Y 14 16 43 rfl (by decide) h.1 dX5_drop_42 (fun H locs Y => ?_)
    have h := h.2
    refine lv_iload_n hx hb dX5_drop_43 rfl (lv_at hl 0 rfl) ?_
    exact ty_iret X Y h dX5_drop_44
  · have h := ty_f h c9
    refine lv_iconst (v := (0 : Int32)) hx hb dX5_drop_23 (by decide) ?_
    exact ty_iret X Y h dX5_drop_24
def eX5_drop (S : ty_S) (x1 : Int32) (K : ty_S → Int32 → Prop) : Prop :=
  (eX5_noRegister S x1 (fun S1 r1 => (if r1 = (0 : Int32) then jX5_drop_13 K  x1 (0 : Int32) S1 else jX5_drop_13 K  x1 (1 : Int32) S1)))
set_option maxHeartbeats 4000000 in
set_option maxRecDepth 100000 in
theorem cX5_drop_C (l : Launch) (D : va_G) (cA : Nat → ClassId) (q : Nat → Nat) (S : ty_S) (x1 : Int32) (K : ty_S → Int32 → Prop) (h : eX5_drop S x1 K) : ∀ sz, Met l yX5_drop wsX5_drop rX5_drop (ty_Pc D cA q ty_LM S sz [.ref (q 0), .int x1]) (ty_Qi D cA q ty_LM sz K) 0 0 (ty_A q ty_LM.length sz) := by
  refine ty_ofM (ret := (some .int)) (maxL := 3) (cc := cX5_drop) (own := RX5) (Qc := fun sz => ty_Qi D cA q ty_LM sz K) (by decide +kernel) rfl (Nat.le_of_ble_eq_true rfl) rfl ?_
  intro p e s m args below meth c ls X hl Y
  have hx := X.1.1
  have hb := X.1.2.1
  have hl : lv_has ls 3 [(0, .ref (q 0)), (1, .int x1)] := hl
  unfold eX5_drop at h
  refine lv_aload_n hx hb dX5_drop_0 rfl (lv_at hl 0 rfl) ?_
  refine lv_iload_n hx hb dX5_drop_1 rfl (lv_at hl 1 rfl) ?_
  refine ty_Si (As := [.int x1]) (rest := [.ref (q 0)]) X Y (cX5_noRegister_C l D cA q S x1 _ h) (fun hts => va_cwS 1 hts gX5_drop_X5_noRegister rfl rfl rfl (by decide +kernel) ⟨Nat.le_of_ble_eq_true rfl, Nat.le_of_ble_eq_true rfl⟩) rfl hl.1 (Nat.le_of_ble_eq_true rfl) dX5_drop_2 ⟨Nat.zero_le _, Nat.zero_le _⟩ (fun r1 S1 H locs h Y => ?_)
  refine lv_if_eq (tgt := 12) hx hb dX5_drop_5 (by decide) (fun c9 => ?_) (fun c9 => ?_)
  · have h := ty_t h c9
    refine lv_iconst (v := (0 : Int32)) hx hb dX5_drop_12 (by decide) ?_
    exact wjX5_drop_13 X  _ _ _ _ _ _ h Y (lv_sub hl [0, 1] rfl)
  · have h := ty_f h c9
    refine lv_iconst (v := (1 : Int32)) hx hb dX5_drop_8 (by decide) ?_
    refine lv_goto (tgt := 13) hx hb dX5_drop_9 (by decide) ?_
    exact wjX5_drop_13 X  _ _ _ _ _ _ h Y (lv_sub hl [0, 1] rfl)

abbrev rX5_set : Room := { frames := 1, cells := 0, slots := 0, locals := 21 }
theorem kX5_set_0 : Cond.fieldLink RX5 75 "TrainYardModel" "thrown" "I" ∈ wsX5_set := ty_m 3 (by decide +kernel)
theorem kX5_set_1 : Cond.fieldLink RX5 49 "TrainYardModel" "register" "[I" ∈ wsX5_set := ty_m 1 (by decide +kernel)
theorem kX5_set_2 : Cond.fieldLink RX5 25 "TrainYardModel" "to" "[I" ∈ wsX5_set := ty_m 4 (by decide +kernel)
theorem kX5_set_3 : Cond.fieldLink RX5 19 "TrainYardModel" "references" "[I" ∈ wsX5_set := ty_m 2 (by decide +kernel)
theorem iX5_set_X5 : ∀ w ∈ wsX50, w ∈ wsX5_set := ty_inp _ [14, 15, 16, 17, 18, 19, 20, 21, 22, 23, 24, 25, 26, 27, 28, 29, 30, 31, 32, 33, 34, 35, 36, 37, 38, 39, 40, 41, 42, 43, 44] (by decide +kernel)
def jX5_set_56 (K : ty_S → Int32 → Prop)  (x1 : Int32) (x2 : Int32) (x3 : Int32) (t0 : Int32) (S : ty_S) : Prop :=
  (if t0 ≤ (0 : Int32) then (vp_in x1 16 ∧ (vp_in (((12 : Int32) * (S 43 x1.toNatClampNeg)) + x2) 7680 ∧ (eX5_labelOf (ty_st S 60 0 t0) (S 35 (((12 : Int32) * (S 43 x1.toNatClampNeg)) + x2).toNatClampNeg) (fun S2 r2 => (vp_in x3 16 ∧ (vp_in (((12 : Int32) * (S 43 x1.toNatClampNeg)) + x2) 7680 ∧ K (ty_st S2 35 (((12 : Int32) * (S 43 x1.toNatClampNeg)) + x2).toNatClampNeg (S2 43 x3.toNatClampNeg)) r2)))))) else K (ty_st S 60 0 t0) (0 : Int32))
set_option maxHeartbeats 4000000 in
set_option maxRecDepth 100000 in
theorem wjX5_set_56 {p : Program} {l : Launch} {e : Env} {s : State} {m : MethodId} {args : Array Value} {below : List Frame} {meth : Method} {c : Code} {D : va_G} {cA : Nat → ClassId} {q : Nat → Nat} {K : ty_S → Int32 → Prop}  (X : ty_X D cA p s m args meth c cX5_set 6 (some .int) wsX5_set RX5)  (x1 : Int32) (x2 : Int32) (x3 : Int32) (t0 : Int32) (S : ty_S) (H : Heap) (locs : List Loc) (ls : Array Slot) (h : jX5_set_56 K  x1 x2 x3 t0 S) (Y : ty_Y D cA q ty_LM S s H locs) (hl : lv_has ls 6 [(0, .ref (q 0)), (1, .int x1), (2, .int x2), (3, .int x3)]) : W p l e rX5_set s m args below meth c H locs 0 0 (ty_MI D cA q ty_LM K below args s) (F0 m 56 ls [.int t0, .ref (q 0)]) := by
  have hx := X.1.1
  have hb := X.1.2.1
  unfold jX5_set_56 at h
  refine tp_X5_thrown X Y iX5_set_X5 kX5_set_0 dX5_set_56 (fun H locs Y => ?_)
  refine lv_aload_n hx hb dX5_set_59 rfl (lv_at hl 0 rfl) ?_
  refine tg_X5_thrown (v := t0) X Y iX5_set_X5 kX5_set_0 rfl dX5_set_60 ?_
  refine lv_if_le (tgt := 68) hx hb dX5_set_63 (by decide) (fun c9 => ?_) (fun c9 => ?_)
  · have h := ty_t h c9
    refine lv_bipush (v := (12 : Int32)) hx hb dX5_set_68 (by decide) ?_
    refine lv_aload_n hx hb dX5_set_70 rfl (lv_at hl 0 rfl) ?_
    refine tg_X5_register X Y iX5_set_X5 kX5_set_1 dX5_set_71 ?_
    refine lv_iload_n hx hb dX5_set_74 rfl (lv_at hl 1 rfl) ?_
    refine ty_iald (v := (S 43 x1.toNatClampNeg)) X Y 14 16 43 rfl h.1 rfl dX5_set_75 ?_
    have h := h.2
    refine lv_imul hx hb dX5_set_76 ?_
    refine lv_iload_n hx hb dX5_set_77 rfl (lv_at hl 2 rfl) ?_
    refine lv_iadd hx hb dX5_set_78 ?_
    refine lv_istore (lv' := [(4, .int (((12 : Int32) * (S 43 x1.toNatClampNeg)) + x2)), (0, .ref (q 0)), (1, .int x1), (2, .int x2), (3, .int x3)]) hx hb dX5_set_79 hl (by decide) rfl (fun ls hl => ?_)
    refine lv_aload_n hx hb dX5_set_81 rfl (lv_at hl 1 rfl) ?_
    refine lv_aload_n hx hb dX5_set_82 rfl (lv_at hl 1 rfl) ?_
    refine tg_X5_to X Y iX5_set_X5 kX5_set_2 dX5_set_83 ?_
    refine lv_iload hx hb dX5_set_86 (lv_at hl 0 rfl) ?_
    refine ty_iald (v := (S 35 (((12 : Int32) * (S 43 x1.toNatClampNeg)) + x2).toNatClampNeg)) X Y 6 7680 35 rfl h.1 rfl dX5_set_88 ?_
    have h := h.2
    refine ty_Vi (As := [.int (S 35 (((12 : Int32) * (S 43 x1.toNatClampNeg)) + x2).toNatClampNeg)]) (b := 0) (rest := []) X Y (cX5_labelOf_C l D cA q (ty_st S 60 0 t0) (S 35 (((12 : Int32) * (S 43 x1.toNatClampNeg)) + x2).toNatClampNeg) _ h) rfl rfl (fun hts => cwV 1 hts gX5_set_X5_labelOf rfl rfl rfl (by decide +kernel) ⟨Nat.le_of_ble_eq_true rfl, Nat.le_of_ble_eq_true rfl⟩) rfl hl.1 (Nat.le_of_ble_eq_true rfl) dX5_set_89 ⟨Nat.zero_le _, Nat.zero_le _⟩ (fun r2 S2 H locs h Y => ?_)
    refine lv_istore (lv' := [(5, .int r2), (4, .int (((12 : Int32) * (S 43 x1.toNatClampNeg)) + x2)), (0, .ref (q 0)), (1, .int x1), (2, .int x2), (3, .int x3)]) hx hb dX5_set_92 hl (by decide) rfl (fun ls hl => ?_)
    refine lv_aload_n hx hb dX5_set_94 rfl (lv_at hl 2 rfl) ?_
    refine tg_X5_to X Y iX5_set_X5 kX5_set_2 dX5_set_95 ?_
    refine lv_iload hx hb dX5_set_98 (lv_at hl 1 rfl) ?_
    refine lv_aload_n hx hb dX5_set_100 rfl (lv_at hl 2 rfl) ?_
    refine tg_X5_register X Y iX5_set_X5 kX5_set_1 dX5_set_101 ?_
    refine lv_iload_n hx hb dX5_set_104 rfl (lv_at hl 5 rfl) ?_
    refine ty_iald (v := (S2 43 x3.toNatClampNeg)) X Y 14 16 43 rfl h.1 rfl dX5_set_105 ?_
    have h := h.2
    refine ty_iast X Y 6 7680 35 rfl (by decide) h.1 dX5_set_106 (fun H locs Y => ?_)
    have h := h.2
    refine lv_iload hx hb dX5_set_107 (lv_at hl 0 rfl) ?_
    exact ty_iret X Y h dX5_set_109
  · have h := ty_f h c9
    refine lv_iconst (v := (0 : Int32)) hx hb dX5_set_66 (by decide) ?_
    exact ty_iret X Y h dX5_set_67
def jX5_set_15 (K : ty_S → Int32 → Prop)  (x1 : Int32) (x2 : Int32) (x3 : Int32) (S : ty_S) : Prop :=
  jX5_set_56 K  x1 x2 x3 (1 : Int32) S
set_option maxHeartbeats 4000000 in
set_option maxRecDepth 100000 in
theorem wjX5_set_15 {p : Program} {l : Launch} {e : Env} {s : State} {m : MethodId} {args : Array Value} {below : List Frame} {meth : Method} {c : Code} {D : va_G} {cA : Nat → ClassId} {q : Nat → Nat} {K : ty_S → Int32 → Prop}  (X : ty_X D cA p s m args meth c cX5_set 6 (some .int) wsX5_set RX5)  (x1 : Int32) (x2 : Int32) (x3 : Int32) (S : ty_S) (H : Heap) (locs : List Loc) (ls : Array Slot) (h : jX5_set_15 K  x1 x2 x3 S) (Y : ty_Y D cA q ty_LM S s H locs) (hl : lv_has ls 6 [(0, .ref (q 0)), (1, .int x1), (2, .int x2), (3, .int x3)]) : W p l e rX5_set s m args below meth c H locs 0 0 (ty_MI D cA q ty_LM K below args s) (F0 m 15 ls [.ref (q 0)]) := by
  have hx := X.1.1
  have hb := X.1.2.1
  unfold jX5_set_15 at h
  refine lv_iconst (v := (1 : Int32)) hx hb dX5_set_15 (by decide) ?_
  refine lv_goto (tgt := 56) hx hb dX5_set_16 (by decide) ?_
  exact wjX5_set_56 X  _ _ _ _ _ _ _ _ h Y (lv_sub hl [0, 1, 2, 3] rfl)
def jX5_set_51 (K : ty_S → Int32 → Prop)  (x1 : Int32) (x2 : Int32) (x3 : Int32) (S : ty_S) : Prop :=
  jX5_set_56 K  x1 x2 x3 (3 : Int32) S
set_option maxHeartbeats 4000000 in
set_option maxRecDepth 100000 in
theorem wjX5_set_51 {p : Program} {l : Launch} {e : Env} {s : State} {m : MethodId} {args : Array Value} {below : List Frame} {meth : Method} {c : Code} {D : va_G} {cA : Nat → ClassId} {q : Nat → Nat} {K : ty_S → Int32 → Prop}  (X : ty_X D cA p s m args meth c cX5_set 6 (some .int) wsX5_set RX5)  (x1 : Int32) (x2 : Int32) (x3 : Int32) (S : ty_S) (H : Heap) (locs : List Loc) (ls : Array Slot) (h : jX5_set_51 K  x1 x2 x3 S) (Y : ty_Y D cA q ty_LM S s H locs) (hl : lv_has ls 6 [(0, .ref (q 0)), (1, .int x1), (2, .int x2), (3, .int x3)]) : W p l e rX5_set s m args below meth c H locs 0 0 (ty_MI D cA q ty_LM K below args s) (F0 m 51 ls [.ref (q 0)]) := by
  have hx := X.1.1
  have hb := X.1.2.1
  unfold jX5_set_51 at h
  refine lv_iconst (v := (3 : Int32)) hx hb dX5_set_51 (by decide) ?_
  refine lv_goto (tgt := 56) hx hb dX5_set_52 (by decide) ?_
  exact wjX5_set_56 X  _ _ _ _ _ _ _ _ h Y (lv_sub hl [0, 1, 2, 3] rfl)
def eX5_set (S : ty_S) (x1 : Int32) (x2 : Int32) (x3 : Int32) (K : ty_S → Int32 → Prop) : Prop :=
  (eX5_noRegister S x1 (fun S1 r1 => (if r1 = (0 : Int32) then (eX5_noRegister S1 x3 (fun S3 r3 => (if r3 = (0 : Int32) then (vp_in x1 16 ∧ (if (0 : Int32) ≤ (S3 43 x1.toNatClampNeg) then (if x2 < (0 : Int32) then jX5_set_51 K  x1 x2 x3 S3 else (vp_in x1 16 ∧ (vp_in (S3 43 x1.toNatClampNeg) 640 ∧ (if x2 < (S3 33 (S3 43 x1.toNatClampNeg).toNatClampNeg) then jX5_set_56 K  x1 x2 x3 (0 : Int32) S3 else jX5_set_51 K  x1 x2 x3 S3)))) else jX5_set_56 K  x1 x2 x3 (2 : Int32) S3)) else jX5_set_15 K  x1 x2 x3 S3))) else jX5_set_15 K  x1 x2 x3 S1)))
set_option maxHeartbeats 4000000 in
set_option maxRecDepth 100000 in
theorem cX5_set_C (l : Launch) (D : va_G) (cA : Nat → ClassId) (q : Nat → Nat) (S : ty_S) (x1 : Int32) (x2 : Int32) (x3 : Int32) (K : ty_S → Int32 → Prop) (h : eX5_set S x1 x2 x3 K) : ∀ sz, Met l yX5_set wsX5_set rX5_set (ty_Pc D cA q ty_LM S sz [.ref (q 0), .int x1, .int x2, .int x3]) (ty_Qi D cA q ty_LM sz K) 0 0 (ty_A q ty_LM.length sz) := by
  refine ty_ofM (ret := (some .int)) (maxL := 6) (cc := cX5_set) (own := RX5) (Qc := fun sz => ty_Qi D cA q ty_LM sz K) (by decide +kernel) rfl (Nat.le_of_ble_eq_true rfl) rfl ?_
  intro p e s m args below meth c ls X hl Y
  have hx := X.1.1
  have hb := X.1.2.1
  have hl : lv_has ls 6 [(0, .ref (q 0)), (1, .int x1), (2, .int x2), (3, .int x3)] := hl
  unfold eX5_set at h
  refine lv_aload_n hx hb dX5_set_0 rfl (lv_at hl 0 rfl) ?_
  refine lv_iload_n hx hb dX5_set_1 rfl (lv_at hl 1 rfl) ?_
  refine ty_Si (As := [.int x1]) (rest := [.ref (q 0)]) X Y (cX5_noRegister_C l D cA q S x1 _ h) (fun hts => va_cwS 1 hts gX5_set_X5_noRegister rfl rfl rfl (by decide +kernel) ⟨Nat.le_of_ble_eq_true rfl, Nat.le_of_ble_eq_true rfl⟩) rfl hl.1 (Nat.le_of_ble_eq_true rfl) dX5_set_2 ⟨Nat.zero_le _, Nat.zero_le _⟩ (fun r1 S1 H locs h Y => ?_)
  refine lv_if_ne (tgt := 15) hx hb dX5_set_5 (by decide) (fun c9 => ?_) (fun c9 => ?_)
  · have h := ty_f h c9
    exact wjX5_set_15 X  _ _ _ _ _ _ _ h Y (lv_sub hl [0, 1, 2, 3] rfl)
  · have h := ty_t h c9
    refine lv_iload_n hx hb dX5_set_8 rfl (lv_at hl 3 rfl) ?_
    refine ty_Si (As := [.int x3]) (rest := [.ref (q 0)]) X Y (cX5_noRegister_C l D cA q S1 x3 _ h) (fun hts => va_cwS 1 hts gX5_set_X5_noRegister rfl rfl rfl (by decide +kernel) ⟨Nat.le_of_ble_eq_true rfl, Nat.le_of_ble_eq_true rfl⟩) rfl hl.1 (Nat.le_of_ble_eq_true rfl) dX5_set_9 ⟨Nat.zero_le _, Nat.zero_le _⟩ (fun r3 S3 H locs h Y => ?_)
    refine lv_if_eq (tgt := 19) hx hb dX5_set_12 (by decide) (fun c9 => ?_) (fun c9 => ?_)
    · have h := ty_t h c9
      refine lv_aload_n hx hb dX5_set_19 rfl (lv_at hl 0 rfl) ?_
      refine tg_X5_register X Y iX5_set_X5 kX5_set_1 dX5_set_20 ?_
      refine lv_iload_n hx hb dX5_set_23 rfl (lv_at hl 1 rfl) ?_
      refine ty_iald (v := (S3 43 x1.toNatClampNeg)) X Y 14 16 43 rfl h.1 rfl dX5_set_24 ?_
      have h := h.2
      refine lv_if_ge (tgt := 32) hx hb dX5_set_25 (by decide) (fun c9 => ?_) (fun c9 => ?_)
      · have h := ty_t h c9
        refine lv_iload_n hx hb dX5_set_32 rfl (lv_at hl 2 rfl) ?_
        refine lv_if_lt (tgt := 51) hx hb dX5_set_33 (by decide) (fun c9 => ?_) (fun c9 => ?_)
        · have h := ty_t h c9
          exact wjX5_set_51 X  _ _ _ _ _ _ _ h Y (lv_sub hl [0, 1, 2, 3] rfl)
        · have h := ty_f h c9
          refine lv_iload_n hx hb dX5_set_36 rfl (lv_at hl 2 rfl) ?_
          refine lv_aload_n hx hb dX5_set_37 rfl (lv_at hl 0 rfl) ?_
          refine tg_X5_references X Y iX5_set_X5 kX5_set_3 dX5_set_38 ?_
          refine lv_aload_n hx hb dX5_set_41 rfl (lv_at hl 0 rfl) ?_
          refine tg_X5_register X Y iX5_set_X5 kX5_set_1 dX5_set_42 ?_
          refine lv_iload_n hx hb dX5_set_45 rfl (lv_at hl 1 rfl) ?_
          refine ty_iald (v := (S3 43 x1.toNatClampNeg)) X Y 14 16 43 rfl h.1 rfl dX5_set_46 ?_
          have h := h.2
          refine ty_iald (v := (S3 33 (S3 43 x1.toNatClampNeg).toNatClampNeg)) X Y 4 640 33 rfl h.1 rfl dX5_set_47 ?_
          have h := h.2
          refine lv_icmp_lt (tgt := 55) hx hb dX5_set_48 (by decide) (fun c9 => ?_) (fun c9 => ?_)
          · have h := ty_t h c9
            refine lv_iconst (v := (0 : Int32)) hx hb dX5_set_55 (by decide) ?_
            exact wjX5_set_56 X  _ _ _ _ _ _ _ _ h Y (lv_sub hl [0, 1, 2, 3] rfl)
          · have h := ty_f h c9
            exact wjX5_set_51 X  _ _ _ _ _ _ _ h Y (lv_sub hl [0, 1, 2, 3] rfl)
      · have h := ty_f h c9
        refine lv_iconst (v := (2 : Int32)) hx hb dX5_set_28 (by decide) ?_
        refine lv_goto (tgt := 56) hx hb dX5_set_29 (by decide) ?_
        exact wjX5_set_56 X  _ _ _ _ _ _ _ _ h Y (lv_sub hl [0, 1, 2, 3] rfl)
    · have h := ty_f h c9
      exact wjX5_set_15 X  _ _ _ _ _ _ _ h Y (lv_sub hl [0, 1, 2, 3] rfl)

abbrev rX5_get : Room := { frames := 1, cells := 0, slots := 0, locals := 21 }
theorem kX5_get_0 : Cond.fieldLink RX5 75 "TrainYardModel" "thrown" "I" ∈ wsX5_get := ty_m 3 (by decide +kernel)
theorem kX5_get_1 : Cond.fieldLink RX5 49 "TrainYardModel" "register" "[I" ∈ wsX5_get := ty_m 1 (by decide +kernel)
theorem kX5_get_2 : Cond.fieldLink RX5 25 "TrainYardModel" "to" "[I" ∈ wsX5_get := ty_m 4 (by decide +kernel)
theorem kX5_get_3 : Cond.fieldLink RX5 19 "TrainYardModel" "references" "[I" ∈ wsX5_get := ty_m 2 (by decide +kernel)
theorem iX5_get_X5 : ∀ w ∈ wsX50, w ∈ wsX5_get := ty_inp _ [14, 15, 16, 17, 18, 19, 20, 21, 22, 23, 24, 25, 26, 27, 28, 29, 30, 31, 32, 33, 34, 35, 36, 37, 38, 39, 40, 41, 42, 43, 44] (by decide +kernel)
def jX5_get_56 (K : ty_S → Int32 → Prop)  (x1 : Int32) (x2 : Int32) (x3 : Int32) (t0 : Int32) (S : ty_S) : Prop :=
  (if t0 ≤ (0 : Int32) then (vp_in x2 16 ∧ (vp_in (((12 : Int32) * (S 43 x2.toNatClampNeg)) + x3) 7680 ∧ (vp_in x1 16 ∧ (vp_in x1 16 ∧ (eX5_labelOf (ty_st (ty_st S 60 0 t0) 43 x1.toNatClampNeg (S 35 (((12 : Int32) * (S 43 x2.toNatClampNeg)) + x3).toNatClampNeg)) ((ty_st S 43 x1.toNatClampNeg (S 35 (((12 : Int32) * (S 43 x2.toNatClampNeg)) + x3).toNatClampNeg)) 43 x1.toNatClampNeg) (fun S2 r2 => K S2 r2)))))) else K (ty_st S 60 0 t0) (0 : Int32))
set_option maxHeartbeats 4000000 in
set_option maxRecDepth 100000 in
theorem wjX5_get_56 {p : Program} {l : Launch} {e : Env} {s : State} {m : MethodId} {args : Array Value} {below : List Frame} {meth : Method} {c : Code} {D : va_G} {cA : Nat → ClassId} {q : Nat → Nat} {K : ty_S → Int32 → Prop}  (X : ty_X D cA p s m args meth c cX5_get 4 (some .int) wsX5_get RX5)  (x1 : Int32) (x2 : Int32) (x3 : Int32) (t0 : Int32) (S : ty_S) (H : Heap) (locs : List Loc) (ls : Array Slot) (h : jX5_get_56 K  x1 x2 x3 t0 S) (Y : ty_Y D cA q ty_LM S s H locs) (hl : lv_has ls 4 [(0, .ref (q 0)), (1, .int x1), (2, .int x2), (3, .int x3)]) : W p l e rX5_get s m args below meth c H locs 0 0 (ty_MI D cA q ty_LM K below args s) (F0 m 56 ls [.int t0, .ref (q 0)]) := by
  have hx := X.1.1
  have hb := X.1.2.1
  unfold jX5_get_56 at h
  refine tp_X5_thrown X Y iX5_get_X5 kX5_get_0 dX5_get_56 (fun H locs Y => ?_)
  refine lv_aload_n hx hb dX5_get_59 rfl (lv_at hl 0 rfl) ?_
  refine tg_X5_thrown (v := t0) X Y iX5_get_X5 kX5_get_0 rfl dX5_get_60 ?_
  refine lv_if_le (tgt := 68) hx hb dX5_get_63 (by decide) (fun c9 => ?_) (fun c9 => ?_)
  · have h := ty_t h c9
    refine lv_aload_n hx hb dX5_get_68 rfl (lv_at hl 0 rfl) ?_
    refine tg_X5_register X Y iX5_get_X5 kX5_get_1 dX5_get_69 ?_
    refine lv_iload_n hx hb dX5_get_72 rfl (lv_at hl 1 rfl) ?_
    refine lv_aload_n hx hb dX5_get_73 rfl (lv_at hl 0 rfl) ?_
    refine tg_X5_to X Y iX5_get_X5 kX5_get_2 dX5_get_74 ?_
    refine lv_bipush (v := (12 : Int32)) hx hb dX5_get_77 (by decide) ?_
    refine lv_aload_n hx hb dX5_get_79 rfl (lv_at hl 0 rfl) ?_
    refine tg_X5_register X Y iX5_get_X5 kX5_get_1 dX5_get_80 ?_
    refine lv_iload_n hx hb dX5_get_83 rfl (lv_at hl 2 rfl) ?_
    refine ty_iald (v := (S 43 x2.toNatClampNeg)) X Y 14 16 43 rfl h.1 rfl dX5_get_84 ?_
    have h := h.2
    refine lv_imul hx hb dX5_get_85 ?_
    refine lv_iload_n hx hb dX5_get_86 rfl (lv_at hl 3 rfl) ?_
    refine lv_iadd hx hb dX5_get_87 ?_
    refine ty_iald (v := (S 35 (((12 : Int32) * (S 43 x2.toNatClampNeg)) + x3).toNatClampNeg)) X Y 6 7680 35 rfl h.1 rfl dX5_get_88 ?_
    have h := h.2
    refine ty_iast X Y 14 16 43 rfl (by decide) h.1 dX5_get_89 (fun H locs Y => ?_)
    have h := h.2
    refine lv_aload_n hx hb dX5_get_90 rfl (lv_at hl 0 rfl) ?_
    refine lv_aload_n hx hb dX5_get_91 rfl (lv_at hl 0 rfl) ?_
    refine tg_X5_register X Y iX5_get_X5 kX5_get_1 dX5_get_92 ?_
    refine lv_iload_n hx hb dX5_get_95 rfl (lv_at hl 1 rfl) ?_
    refine ty_iald (v := ((ty_st S 43 x1.toNatClampNeg (S 35 (((12 : Int32) * (S 43 x2.toNatClampNeg)) + x3).toNatClampNeg)) 43 x1.toNatClampNeg)) X Y 14 16 43 rfl h.1 rfl dX5_get_96 ?_
    have h := h.2
    refine ty_Vi (As := [.int ((ty_st S 43 x1.toNatClampNeg (S 35 (((12 : Int32) * (S 43 x2.toNatClampNeg)) + x3).toNatClampNeg)) 43 x1.toNatClampNeg)]) (b := 0) (rest := []) X Y (cX5_labelOf_C l D cA q (ty_st (ty_st S 60 0 t0) 43 x1.toNatClampNeg (S 35 (((12 : Int32) * (S 43 x2.toNatClampNeg)) + x3).toNatClampNeg)) ((ty_st S 43 x1.toNatClampNeg (S 35 (((12 : Int32) * (S 43 x2.toNatClampNeg)) + x3).toNatClampNeg)) 43 x1.toNatClampNeg) _ h) rfl rfl (fun hts => cwV 1 hts gX5_get_X5_labelOf rfl rfl rfl (by decide +kernel) ⟨Nat.le_of_ble_eq_true rfl, Nat.le_of_ble_eq_true rfl⟩) rfl hl.1 (Nat.le_of_ble_eq_true rfl) dX5_get_97 ⟨Nat.zero_le _, Nat.zero_le _⟩ (fun r2 S2 H locs h Y => ?_)
    exact ty_iret X Y h dX5_get_100
  · have h := ty_f h c9
    refine lv_iconst (v := (0 : Int32)) hx hb dX5_get_66 (by decide) ?_
    exact ty_iret X Y h dX5_get_67
def jX5_get_15 (K : ty_S → Int32 → Prop)  (x1 : Int32) (x2 : Int32) (x3 : Int32) (S : ty_S) : Prop :=
  jX5_get_56 K  x1 x2 x3 (1 : Int32) S
set_option maxHeartbeats 4000000 in
set_option maxRecDepth 100000 in
theorem wjX5_get_15 {p : Program} {l : Launch} {e : Env} {s : State} {m : MethodId} {args : Array Value} {below : List Frame} {meth : Method} {c : Code} {D : va_G} {cA : Nat → ClassId} {q : Nat → Nat} {K : ty_S → Int32 → Prop}  (X : ty_X D cA p s m args meth c cX5_get 4 (some .int) wsX5_get RX5)  (x1 : Int32) (x2 : Int32) (x3 : Int32) (S : ty_S) (H : Heap) (locs : List Loc) (ls : Array Slot) (h : jX5_get_15 K  x1 x2 x3 S) (Y : ty_Y D cA q ty_LM S s H locs) (hl : lv_has ls 4 [(0, .ref (q 0)), (1, .int x1), (2, .int x2), (3, .int x3)]) : W p l e rX5_get s m args below meth c H locs 0 0 (ty_MI D cA q ty_LM K below args s) (F0 m 15 ls [.ref (q 0)]) := by
  have hx := X.1.1
  have hb := X.1.2.1
  unfold jX5_get_15 at h
  refine lv_iconst (v := (1 : Int32)) hx hb dX5_get_15 (by decide) ?_
  refine lv_goto (tgt := 56) hx hb dX5_get_16 (by decide) ?_
  exact wjX5_get_56 X  _ _ _ _ _ _ _ _ h Y (lv_sub hl [0, 1, 2, 3] rfl)
def jX5_get_51 (K : ty_S → Int32 → Prop)  (x1 : Int32) (x2 : Int32) (x3 : Int32) (S : ty_S) : Prop :=
  jX5_get_56 K  x1 x2 x3 (3 : Int32) S
set_option maxHeartbeats 4000000 in
set_option maxRecDepth 100000 in
theorem wjX5_get_51 {p : Program} {l : Launch} {e : Env} {s : State} {m : MethodId} {args : Array Value} {below : List Frame} {meth : Method} {c : Code} {D : va_G} {cA : Nat → ClassId} {q : Nat → Nat} {K : ty_S → Int32 → Prop}  (X : ty_X D cA p s m args meth c cX5_get 4 (some .int) wsX5_get RX5)  (x1 : Int32) (x2 : Int32) (x3 : Int32) (S : ty_S) (H : Heap) (locs : List Loc) (ls : Array Slot) (h : jX5_get_51 K  x1 x2 x3 S) (Y : ty_Y D cA q ty_LM S s H locs) (hl : lv_has ls 4 [(0, .ref (q 0)), (1, .int x1), (2, .int x2), (3, .int x3)]) : W p l e rX5_get s m args below meth c H locs 0 0 (ty_MI D cA q ty_LM K below args s) (F0 m 51 ls [.ref (q 0)]) := by
  have hx := X.1.1
  have hb := X.1.2.1
  unfold jX5_get_51 at h
  refine lv_iconst (v := (3 : Int32)) hx hb dX5_get_51 (by decide) ?_
  refine lv_goto (tgt := 56) hx hb dX5_get_52 (by decide) ?_
  exact wjX5_get_56 X  _ _ _ _ _ _ _ _ h Y (lv_sub hl [0, 1, 2, 3] rfl)
def eX5_get (S : ty_S) (x1 : Int32) (x2 : Int32) (x3 : Int32) (K : ty_S → Int32 → Prop) : Prop :=
  (eX5_noRegister S x1 (fun S1 r1 => (if r1 = (0 : Int32) then (eX5_noRegister S1 x2 (fun S3 r3 => (if r3 = (0 : Int32) then (vp_in x2 16 ∧ (if (0 : Int32) ≤ (S3 43 x2.toNatClampNeg) then (if x3 < (0 : Int32) then jX5_get_51 K  x1 x2 x3 S3 else (vp_in x2 16 ∧ (vp_in (S3 43 x2.toNatClampNeg) 640 ∧ (if x3 < (S3 33 (S3 43 x2.toNatClampNeg).toNatClampNeg) then jX5_get_56 K  x1 x2 x3 (0 : Int32) S3 else jX5_get_51 K  x1 x2 x3 S3)))) else jX5_get_56 K  x1 x2 x3 (2 : Int32) S3)) else jX5_get_15 K  x1 x2 x3 S3))) else jX5_get_15 K  x1 x2 x3 S1)))
set_option maxHeartbeats 4000000 in
set_option maxRecDepth 100000 in
theorem cX5_get_C (l : Launch) (D : va_G) (cA : Nat → ClassId) (q : Nat → Nat) (S : ty_S) (x1 : Int32) (x2 : Int32) (x3 : Int32) (K : ty_S → Int32 → Prop) (h : eX5_get S x1 x2 x3 K) : ∀ sz, Met l yX5_get wsX5_get rX5_get (ty_Pc D cA q ty_LM S sz [.ref (q 0), .int x1, .int x2, .int x3]) (ty_Qi D cA q ty_LM sz K) 0 0 (ty_A q ty_LM.length sz) := by
  refine ty_ofM (ret := (some .int)) (maxL := 4) (cc := cX5_get) (own := RX5) (Qc := fun sz => ty_Qi D cA q ty_LM sz K) (by decide +kernel) rfl (Nat.le_of_ble_eq_true rfl) rfl ?_
  intro p e s m args below meth c ls X hl Y
  have hx := X.1.1
  have hb := X.1.2.1
  have hl : lv_has ls 4 [(0, .ref (q 0)), (1, .int x1), (2, .int x2), (3, .int x3)] := hl
  unfold eX5_get at h
  refine lv_aload_n hx hb dX5_get_0 rfl (lv_at hl 0 rfl) ?_
  refine lv_iload_n hx hb dX5_get_1 rfl (lv_at hl 1 rfl) ?_
  refine ty_Si (As := [.int x1]) (rest := [.ref (q 0)]) X Y (cX5_noRegister_C l D cA q S x1 _ h) (fun hts => va_cwS 1 hts gX5_get_X5_noRegister rfl rfl rfl (by decide +kernel) ⟨Nat.le_of_ble_eq_true rfl, Nat.le_of_ble_eq_true rfl⟩) rfl hl.1 (Nat.le_of_ble_eq_true rfl) dX5_get_2 ⟨Nat.zero_le _, Nat.zero_le _⟩ (fun r1 S1 H locs h Y => ?_)
  refine lv_if_ne (tgt := 15) hx hb dX5_get_5 (by decide) (fun c9 => ?_) (fun c9 => ?_)
  · have h := ty_f h c9
    exact wjX5_get_15 X  _ _ _ _ _ _ _ h Y (lv_sub hl [0, 1, 2, 3] rfl)
  · have h := ty_t h c9
    refine lv_iload_n hx hb dX5_get_8 rfl (lv_at hl 2 rfl) ?_
    refine ty_Si (As := [.int x2]) (rest := [.ref (q 0)]) X Y (cX5_noRegister_C l D cA q S1 x2 _ h) (fun hts => va_cwS 1 hts gX5_get_X5_noRegister rfl rfl rfl (by decide +kernel) ⟨Nat.le_of_ble_eq_true rfl, Nat.le_of_ble_eq_true rfl⟩) rfl hl.1 (Nat.le_of_ble_eq_true rfl) dX5_get_9 ⟨Nat.zero_le _, Nat.zero_le _⟩ (fun r3 S3 H locs h Y => ?_)
    refine lv_if_eq (tgt := 19) hx hb dX5_get_12 (by decide) (fun c9 => ?_) (fun c9 => ?_)
    · have h := ty_t h c9
      refine lv_aload_n hx hb dX5_get_19 rfl (lv_at hl 0 rfl) ?_
      refine tg_X5_register X Y iX5_get_X5 kX5_get_1 dX5_get_20 ?_
      refine lv_iload_n hx hb dX5_get_23 rfl (lv_at hl 2 rfl) ?_
      refine ty_iald (v := (S3 43 x2.toNatClampNeg)) X Y 14 16 43 rfl h.1 rfl dX5_get_24 ?_
      have h := h.2
      refine lv_if_ge (tgt := 32) hx hb dX5_get_25 (by decide) (fun c9 => ?_) (fun c9 => ?_)
      · have h := ty_t h c9
        refine lv_iload_n hx hb dX5_get_32 rfl (lv_at hl 3 rfl) ?_
        refine lv_if_lt (tgt := 51) hx hb dX5_get_33 (by decide) (fun c9 => ?_) (fun c9 => ?_)
        · have h := ty_t h c9
          exact wjX5_get_51 X  _ _ _ _ _ _ _ h Y (lv_sub hl [0, 1, 2, 3] rfl)
        · have h := ty_f h c9
          refine lv_iload_n hx hb dX5_get_36 rfl (lv_at hl 3 rfl) ?_
          refine lv_aload_n hx hb dX5_get_37 rfl (lv_at hl 0 rfl) ?_
          refine tg_X5_references X Y iX5_get_X5 kX5_get_3 dX5_get_38 ?_
          refine lv_aload_n hx hb dX5_get_41 rfl (lv_at hl 0 rfl) ?_
          refine tg_X5_register X Y iX5_get_X5 kX5_get_1 dX5_get_42 ?_
          refine lv_iload_n hx hb dX5_get_45 rfl (lv_at hl 2 rfl) ?_
          refine ty_iald (v := (S3 43 x2.toNatClampNeg)) X Y 14 16 43 rfl h.1 rfl dX5_get_46 ?_
          have h := h.2
          refine ty_iald (v := (S3 33 (S3 43 x2.toNatClampNeg).toNatClampNeg)) X Y 4 640 33 rfl h.1 rfl dX5_get_47 ?_
          have h := h.2
          refine lv_icmp_lt (tgt := 55) hx hb dX5_get_48 (by decide) (fun c9 => ?_) (fun c9 => ?_)
          · have h := ty_t h c9
            refine lv_iconst (v := (0 : Int32)) hx hb dX5_get_55 (by decide) ?_
            exact wjX5_get_56 X  _ _ _ _ _ _ _ _ h Y (lv_sub hl [0, 1, 2, 3] rfl)
          · have h := ty_f h c9
            exact wjX5_get_51 X  _ _ _ _ _ _ _ h Y (lv_sub hl [0, 1, 2, 3] rfl)
      · have h := ty_f h c9
        refine lv_iconst (v := (2 : Int32)) hx hb dX5_get_28 (by decide) ?_
        refine lv_goto (tgt := 56) hx hb dX5_get_29 (by decide) ?_
        exact wjX5_get_56 X  _ _ _ _ _ _ _ _ h Y (lv_sub hl [0, 1, 2, 3] rfl)
    · have h := ty_f h c9
      exact wjX5_get_15 X  _ _ _ _ _ _ _ h Y (lv_sub hl [0, 1, 2, 3] rfl)

abbrev rX5_noNumber : Room := { frames := 1, cells := 0, slots := 0, locals := 20 }
theorem kX5_noNumber_0 : Cond.fieldLink RX5 49 "TrainYardModel" "register" "[I" ∈ wsX5_noNumber := ty_m 1 (by decide +kernel)
theorem kX5_noNumber_1 : Cond.fieldLink RX5 75 "TrainYardModel" "thrown" "I" ∈ wsX5_noNumber := ty_m 3 (by decide +kernel)
theorem kX5_noNumber_2 : Cond.fieldLink RX5 22 "TrainYardModel" "numbers" "[I" ∈ wsX5_noNumber := ty_m 2 (by decide +kernel)
theorem iX5_noNumber_X5 : ∀ w ∈ wsX50, w ∈ wsX5_noNumber := ty_inp _ [8, 9, 10, 11, 12, 13, 14, 15, 16, 17, 18, 19, 20, 21, 22, 23, 24, 25, 26, 27, 28, 29, 30, 31, 32, 33, 34, 35, 36, 37, 38] (by decide +kernel)
def jX5_noNumber_49 (K : ty_S → Int32 → Prop)  (t0 : Int32) (S : ty_S) : Prop :=
  (if t0 ≤ (0 : Int32) then K (ty_st S 60 0 t0) (0 : Int32) else K (ty_st S 60 0 t0) (1 : Int32))
set_option maxHeartbeats 4000000 in
set_option maxRecDepth 100000 in
theorem wjX5_noNumber_49 {p : Program} {l : Launch} {e : Env} {s : State} {m : MethodId} {args : Array Value} {below : List Frame} {meth : Method} {c : Code} {D : va_G} {cA : Nat → ClassId} {q : Nat → Nat} {K : ty_S → Int32 → Prop}  (X : ty_X D cA p s m args meth c cX5_noNumber 3 (some .boolean) wsX5_noNumber RX5)  (t0 : Int32) (S : ty_S) (H : Heap) (locs : List Loc) (ls : Array Slot) (h : jX5_noNumber_49 K  t0 S) (Y : ty_Y D cA q ty_LM S s H locs) (hl : lv_has ls 3 [(0, .ref (q 0))]) : W p l e rX5_noNumber s m args below meth c H locs 0 0 (ty_MI D cA q ty_LM K below args s) (F0 m 49 ls [.int t0, .ref (q 0)]) := by
  have hx := X.1.1
  have hb := X.1.2.1
  unfold jX5_noNumber_49 at h
  refine tp_X5_thrown X Y iX5_noNumber_X5 kX5_noNumber_1 dX5_noNumber_49 (fun H locs Y => ?_)
  refine lv_aload_n hx hb dX5_noNumber_52 rfl (lv_at hl 0 rfl) ?_
  refine tg_X5_thrown (v := t0) X Y iX5_noNumber_X5 kX5_noNumber_1 rfl dX5_noNumber_53 ?_
  refine lv_if_le (tgt := 63) hx hb dX5_noNumber_56 (by decide) (fun c9 => ?_) (fun c9 => ?_)
  · have h := ty_t h c9
    refine lv_iconst (v := (0 : Int32)) hx hb dX5_noNumber_63 (by decide) ?_
    exact ty_zret X Y h rfl dX5_noNumber_64
  · have h := ty_f h c9
    refine lv_iconst (v := (1 : Int32)) hx hb dX5_noNumber_59 (by decide) ?_
    refine lv_goto (tgt := 64) hx hb dX5_noNumber_60 (by decide) ?_
    exact ty_zret X Y h rfl dX5_noNumber_64
def jX5_noNumber_44 (K : ty_S → Int32 → Prop)   (S : ty_S) : Prop :=
  jX5_noNumber_49 K  (3 : Int32) S
set_option maxHeartbeats 4000000 in
set_option maxRecDepth 100000 in
theorem wjX5_noNumber_44 {p : Program} {l : Launch} {e : Env} {s : State} {m : MethodId} {args : Array Value} {below : List Frame} {meth : Method} {c : Code} {D : va_G} {cA : Nat → ClassId} {q : Nat → Nat} {K : ty_S → Int32 → Prop}  (X : ty_X D cA p s m args meth c cX5_noNumber 3 (some .boolean) wsX5_noNumber RX5)   (S : ty_S) (H : Heap) (locs : List Loc) (ls : Array Slot) (h : jX5_noNumber_44 K   S) (Y : ty_Y D cA q ty_LM S s H locs) (hl : lv_has ls 3 [(0, .ref (q 0))]) : W p l e rX5_noNumber s m args below meth c H locs 0 0 (ty_MI D cA q ty_LM K below args s) (F0 m 44 ls [.ref (q 0)]) := by
  have hx := X.1.1
  have hb := X.1.2.1
  unfold jX5_noNumber_44 at h
  refine lv_iconst (v := (3 : Int32)) hx hb dX5_noNumber_44 (by decide) ?_
  refine lv_goto (tgt := 49) hx hb dX5_noNumber_45 (by decide) ?_
  exact wjX5_noNumber_49 X  _ _ _ _ _ h Y (lv_sub hl [0] rfl)
def eX5_noNumber (S : ty_S) (x1 : Int32) (x2 : Int32) (K : ty_S → Int32 → Prop) : Prop :=
  (eX5_noRegister S x1 (fun S1 r1 => (if r1 = (0 : Int32) then (vp_in x1 16 ∧ (if (0 : Int32) ≤ (S1 43 x1.toNatClampNeg) then (if x2 < (0 : Int32) then jX5_noNumber_44 K   S1 else (vp_in x1 16 ∧ (vp_in (S1 43 x1.toNatClampNeg) 640 ∧ (if x2 < (S1 34 (S1 43 x1.toNatClampNeg).toNatClampNeg) then jX5_noNumber_49 K  (0 : Int32) S1 else jX5_noNumber_44 K   S1)))) else jX5_noNumber_49 K  (2 : Int32) S1)) else jX5_noNumber_49 K  (1 : Int32) S1)))
set_option maxHeartbeats 4000000 in
set_option maxRecDepth 100000 in
theorem cX5_noNumber_C (l : Launch) (D : va_G) (cA : Nat → ClassId) (q : Nat → Nat) (S : ty_S) (x1 : Int32) (x2 : Int32) (K : ty_S → Int32 → Prop) (h : eX5_noNumber S x1 x2 K) : ∀ sz, Met l yX5_noNumber wsX5_noNumber rX5_noNumber (ty_Pc D cA q ty_LM S sz [.ref (q 0), .int x1, .int x2]) (ty_Qi D cA q ty_LM sz K) 0 0 (ty_A q ty_LM.length sz) := by
  refine ty_ofM (ret := (some .boolean)) (maxL := 3) (cc := cX5_noNumber) (own := RX5) (Qc := fun sz => ty_Qi D cA q ty_LM sz K) (by decide +kernel) rfl (Nat.le_of_ble_eq_true rfl) rfl ?_
  intro p e s m args below meth c ls X hl Y
  have hx := X.1.1
  have hb := X.1.2.1
  have hl : lv_has ls 3 [(0, .ref (q 0)), (1, .int x1), (2, .int x2)] := hl
  unfold eX5_noNumber at h
  refine lv_aload_n hx hb dX5_noNumber_0 rfl (lv_at hl 0 rfl) ?_
  refine lv_iload_n hx hb dX5_noNumber_1 rfl (lv_at hl 1 rfl) ?_
  refine ty_Si (As := [.int x1]) (rest := [.ref (q 0)]) X Y (cX5_noRegister_C l D cA q S x1 _ h) (fun hts => va_cwS 1 hts gX5_noNumber_X5_noRegister rfl rfl rfl (by decide +kernel) ⟨Nat.le_of_ble_eq_true rfl, Nat.le_of_ble_eq_true rfl⟩) rfl hl.1 (Nat.le_of_ble_eq_true rfl) dX5_noNumber_2 ⟨Nat.zero_le _, Nat.zero_le _⟩ (fun r1 S1 H locs h Y => ?_)
  refine lv_if_eq (tgt := 12) hx hb dX5_noNumber_5 (by decide) (fun c9 => ?_) (fun c9 => ?_)
  · have h := ty_t h c9
    refine lv_aload_n hx hb dX5_noNumber_12 rfl (lv_at hl 0 rfl) ?_
    refine tg_X5_register X Y iX5_noNumber_X5 kX5_noNumber_0 dX5_noNumber_13 ?_
    refine lv_iload_n hx hb dX5_noNumber_16 rfl (lv_at hl 1 rfl) ?_
    refine ty_iald (v := (S1 43 x1.toNatClampNeg)) X Y 14 16 43 rfl h.1 rfl dX5_noNumber_17 ?_
    have h := h.2
    refine lv_if_ge (tgt := 25) hx hb dX5_noNumber_18 (by decide) (fun c9 => ?_) (fun c9 => ?_)
    · have h := ty_t h c9
      refine lv_iload_n hx hb dX5_noNumber_25 rfl (lv_at hl 2 rfl) ?_
      refine lv_if_lt (tgt := 44) hx hb dX5_noNumber_26 (by decide) (fun c9 => ?_) (fun c9 => ?_)
      · have h := ty_t h c9
        exact wjX5_noNumber_44 X  _ _ _ _ h Y (lv_sub hl [0] rfl)
      · have h := ty_f h c9
        refine lv_iload_n hx hb dX5_noNumber_29 rfl (lv_at hl 2 rfl) ?_
        refine lv_aload_n hx hb dX5_noNumber_30 rfl (lv_at hl 0 rfl) ?_
        refine tg_X5_numbers X Y iX5_noNumber_X5 kX5_noNumber_2 dX5_noNumber_31 ?_
        refine lv_aload_n hx hb dX5_noNumber_34 rfl (lv_at hl 0 rfl) ?_
        refine tg_X5_register X Y iX5_noNumber_X5 kX5_noNumber_0 dX5_noNumber_35 ?_
        refine lv_iload_n hx hb dX5_noNumber_38 rfl (lv_at hl 1 rfl) ?_
        refine ty_iald (v := (S1 43 x1.toNatClampNeg)) X Y 14 16 43 rfl h.1 rfl dX5_noNumber_39 ?_
        have h := h.2
        refine ty_iald (v := (S1 34 (S1 43 x1.toNatClampNeg).toNatClampNeg)) X Y 5 640 34 rfl h.1 rfl dX5_noNumber_40 ?_
        have h := h.2
        refine lv_icmp_lt (tgt := 48) hx hb dX5_noNumber_41 (by decide) (fun c9 => ?_) (fun c9 => ?_)
        · have h := ty_t h c9
          refine lv_iconst (v := (0 : Int32)) hx hb dX5_noNumber_48 (by decide) ?_
          exact wjX5_noNumber_49 X  _ _ _ _ _ h Y (lv_sub hl [0] rfl)
        · have h := ty_f h c9
          exact wjX5_noNumber_44 X  _ _ _ _ h Y (lv_sub hl [0] rfl)
    · have h := ty_f h c9
      refine lv_iconst (v := (2 : Int32)) hx hb dX5_noNumber_21 (by decide) ?_
      refine lv_goto (tgt := 49) hx hb dX5_noNumber_22 (by decide) ?_
      exact wjX5_noNumber_49 X  _ _ _ _ _ h Y (lv_sub hl [0] rfl)
  · have h := ty_f h c9
    refine lv_iconst (v := (1 : Int32)) hx hb dX5_noNumber_8 (by decide) ?_
    refine lv_goto (tgt := 49) hx hb dX5_noNumber_9 (by decide) ?_
    exact wjX5_noNumber_49 X  _ _ _ _ _ h Y (lv_sub hl [0] rfl)

abbrev rX5_put : Room := { frames := 2, cells := 0, slots := 0, locals := 42 }
theorem kX5_put_0 : Cond.fieldLink RX5 49 "TrainYardModel" "register" "[I" ∈ wsX5_put := ty_m 1 (by decide +kernel)
theorem kX5_put_1 : Cond.fieldLink RX5 28 "TrainYardModel" "value" "[I" ∈ wsX5_put := ty_m 2 (by decide +kernel)
theorem iX5_put_X5 : ∀ w ∈ wsX50, w ∈ wsX5_put := ty_inp _ [13, 14, 15, 16, 17, 18, 19, 20, 21, 22, 23, 24, 25, 26, 27, 28, 29, 30, 31, 32, 33, 34, 35, 36, 37, 38, 39, 40, 41, 42, 43] (by decide +kernel)
def eX5_put (S : ty_S) (x1 : Int32) (x2 : Int32) (x3 : Int32) (K : ty_S → Int32 → Prop) : Prop :=
  (eX5_noNumber S x1 x2 (fun S1 r1 => (if r1 = (0 : Int32) then (vp_in x1 16 ∧ (vp_in (((12 : Int32) * (S1 43 x1.toNatClampNeg)) + x2) 7680 ∧ (vp_in (((12 : Int32) * (S1 43 x1.toNatClampNeg)) + x2) 7680 ∧ K (ty_st S1 36 (((12 : Int32) * (S1 43 x1.toNatClampNeg)) + x2).toNatClampNeg x3) (S1 36 (((12 : Int32) * (S1 43 x1.toNatClampNeg)) + x2).toNatClampNeg)))) else K S1 (0 : Int32))))
set_option maxHeartbeats 4000000 in
set_option maxRecDepth 100000 in
theorem cX5_put_C (l : Launch) (D : va_G) (cA : Nat → ClassId) (q : Nat → Nat) (S : ty_S) (x1 : Int32) (x2 : Int32) (x3 : Int32) (K : ty_S → Int32 → Prop) (h : eX5_put S x1 x2 x3 K) : ∀ sz, Met l yX5_put wsX5_put rX5_put (ty_Pc D cA q ty_LM S sz [.ref (q 0), .int x1, .int x2, .int x3]) (ty_Qi D cA q ty_LM sz K) 0 0 (ty_A q ty_LM.length sz) := by
  refine ty_ofM (ret := (some .int)) (maxL := 6) (cc := cX5_put) (own := RX5) (Qc := fun sz => ty_Qi D cA q ty_LM sz K) (by decide +kernel) rfl (Nat.le_of_ble_eq_true rfl) rfl ?_
  intro p e s m args below meth c ls X hl Y
  have hx := X.1.1
  have hb := X.1.2.1
  have hl : lv_has ls 6 [(0, .ref (q 0)), (1, .int x1), (2, .int x2), (3, .int x3)] := hl
  unfold eX5_put at h
  refine lv_aload_n hx hb dX5_put_0 rfl (lv_at hl 0 rfl) ?_
  refine lv_iload_n hx hb dX5_put_1 rfl (lv_at hl 1 rfl) ?_
  refine lv_iload_n hx hb dX5_put_2 rfl (lv_at hl 2 rfl) ?_
  refine ty_Vi (As := [.int x1, .int x2]) (b := 0) (rest := []) X Y (cX5_noNumber_C l D cA q S x1 x2 _ h) rfl rfl (fun hts => cwV 2 hts gX5_put_X5_noNumber rfl rfl rfl (by decide +kernel) ⟨Nat.le_of_ble_eq_true rfl, Nat.le_of_ble_eq_true rfl⟩) rfl hl.1 (Nat.le_of_ble_eq_true rfl) dX5_put_3 ⟨Nat.zero_le _, Nat.zero_le _⟩ (fun r1 S1 H locs h Y => ?_)
  refine lv_if_eq (tgt := 11) hx hb dX5_put_6 (by decide) (fun c9 => ?_) (fun c9 => ?_)
  · have h := ty_t h c9
    refine lv_bipush (v := (12 : Int32)) hx hb dX5_put_11 (by decide) ?_
    refine lv_aload_n hx hb dX5_put_13 rfl (lv_at hl 0 rfl) ?_
    refine tg_X5_register X Y iX5_put_X5 kX5_put_0 dX5_put_14 ?_
    refine lv_iload_n hx hb dX5_put_17 rfl (lv_at hl 1 rfl) ?_
    refine ty_iald (v := (S1 43 x1.toNatClampNeg)) X Y 14 16 43 rfl h.1 rfl dX5_put_18 ?_
    have h := h.2
    refine lv_imul hx hb dX5_put_19 ?_
    refine lv_iload_n hx hb dX5_put_20 rfl (lv_at hl 2 rfl) ?_
    refine lv_iadd hx hb dX5_put_21 ?_
    refine lv_istore (lv' := [(4, .int (((12 : Int32) * (S1 43 x1.toNatClampNeg)) + x2)), (0, .ref (q 0)), (1, .int x1), (2, .int x2), (3, .int x3)]) hx hb dX5_put_22 hl (by decide) rfl (fun ls hl => ?_)
    refine lv_aload_n hx hb dX5_put_24 rfl (lv_at hl 1 rfl) ?_
    refine tg_X5_value X Y iX5_put_X5 kX5_put_1 dX5_put_25 ?_
    refine lv_iload hx hb dX5_put_28 (lv_at hl 0 rfl) ?_
    refine ty_iald (v := (S1 36 (((12 : Int32) * (S1 43 x1.toNatClampNeg)) + x2).toNatClampNeg)) X Y 7 7680 36 rfl h.1 rfl dX5_put_30 ?_
    have h := h.2
    refine lv_istore (lv' := [(5, .int (S1 36 (((12 : Int32) * (S1 43 x1.toNatClampNeg)) + x2).toNatClampNeg)), (4, .int (((12 : Int32) * (S1 43 x1.toNatClampNeg)) + x2)), (0, .ref (q 0)), (1, .int x1), (2, .int x2), (3, .int x3)]) hx hb dX5_put_31 hl (by decide) rfl (fun ls hl => ?_)
    refine lv_aload_n hx hb dX5_put_33 rfl (lv_at hl 2 rfl) ?_
    refine tg_X5_value X Y iX5_put_X5 kX5_put_1 dX5_put_34 ?_
    refine lv_iload hx hb dX5_put_37 (lv_at hl 1 rfl) ?_
    refine lv_iload_n hx hb dX5_put_39 rfl (lv_at hl 5 rfl) ?_
    refine ty_iast X Y 7 7680 36 rfl (by decide) h.1 dX5_put_40 (fun H locs Y => ?_)
    have h := h.2
    refine lv_iload hx hb dX5_put_41 (lv_at hl 0 rfl) ?_
    exact ty_iret X Y h dX5_put_43
  · have h := ty_f h c9
    refine lv_iconst (v := (0 : Int32)) hx hb dX5_put_9 (by decide) ?_
    exact ty_iret X Y h dX5_put_10

abbrev rX5_number : Room := { frames := 2, cells := 0, slots := 0, locals := 42 }
theorem kX5_number_0 : Cond.fieldLink RX5 28 "TrainYardModel" "value" "[I" ∈ wsX5_number := ty_m 1 (by decide +kernel)
theorem kX5_number_1 : Cond.fieldLink RX5 49 "TrainYardModel" "register" "[I" ∈ wsX5_number := ty_m 2 (by decide +kernel)
theorem iX5_number_X5 : ∀ w ∈ wsX50, w ∈ wsX5_number := ty_inp _ [13, 14, 15, 16, 17, 18, 19, 20, 21, 22, 23, 24, 25, 26, 27, 28, 29, 30, 31, 32, 33, 34, 35, 36, 37, 38, 39, 40, 41, 42, 43] (by decide +kernel)
def eX5_number (S : ty_S) (x1 : Int32) (x2 : Int32) (K : ty_S → Int32 → Prop) : Prop :=
  (eX5_noNumber S x1 x2 (fun S1 r1 => (if r1 = (0 : Int32) then (vp_in x1 16 ∧ (vp_in (((12 : Int32) * (S1 43 x1.toNatClampNeg)) + x2) 7680 ∧ K S1 (S1 36 (((12 : Int32) * (S1 43 x1.toNatClampNeg)) + x2).toNatClampNeg))) else K S1 (0 : Int32))))
set_option maxHeartbeats 4000000 in
set_option maxRecDepth 100000 in
theorem cX5_number_C (l : Launch) (D : va_G) (cA : Nat → ClassId) (q : Nat → Nat) (S : ty_S) (x1 : Int32) (x2 : Int32) (K : ty_S → Int32 → Prop) (h : eX5_number S x1 x2 K) : ∀ sz, Met l yX5_number wsX5_number rX5_number (ty_Pc D cA q ty_LM S sz [.ref (q 0), .int x1, .int x2]) (ty_Qi D cA q ty_LM sz K) 0 0 (ty_A q ty_LM.length sz) := by
  refine ty_ofM (ret := (some .int)) (maxL := 3) (cc := cX5_number) (own := RX5) (Qc := fun sz => ty_Qi D cA q ty_LM sz K) (by decide +kernel) rfl (Nat.le_of_ble_eq_true rfl) rfl ?_
  intro p e s m args below meth c ls X hl Y
  have hx := X.1.1
  have hb := X.1.2.1
  have hl : lv_has ls 3 [(0, .ref (q 0)), (1, .int x1), (2, .int x2)] := hl
  unfold eX5_number at h
  refine lv_aload_n hx hb dX5_number_0 rfl (lv_at hl 0 rfl) ?_
  refine lv_iload_n hx hb dX5_number_1 rfl (lv_at hl 1 rfl) ?_
  refine lv_iload_n hx hb dX5_number_2 rfl (lv_at hl 2 rfl) ?_
  refine ty_Vi (As := [.int x1, .int x2]) (b := 0) (rest := []) X Y (cX5_noNumber_C l D cA q S x1 x2 _ h) rfl rfl (fun hts => cwV 2 hts gX5_number_X5_noNumber rfl rfl rfl (by decide +kernel) ⟨Nat.le_of_ble_eq_true rfl, Nat.le_of_ble_eq_true rfl⟩) rfl hl.1 (Nat.le_of_ble_eq_true rfl) dX5_number_3 ⟨Nat.zero_le _, Nat.zero_le _⟩ (fun r1 S1 H locs h Y => ?_)
  refine lv_if_eq (tgt := 13) hx hb dX5_number_6 (by decide) (fun c9 => ?_) (fun c9 => ?_)
  · have h := ty_t h c9
    refine lv_aload_n hx hb dX5_number_13 rfl (lv_at hl 0 rfl) ?_
    refine tg_X5_value X Y iX5_number_X5 kX5_number_0 dX5_number_14 ?_
    refine lv_bipush (v := (12 : Int32)) hx hb dX5_number_17 (by decide) ?_
    refine lv_aload_n hx hb dX5_number_19 rfl (lv_at hl 0 rfl) ?_
    refine tg_X5_register X Y iX5_number_X5 kX5_number_1 dX5_number_20 ?_
    refine lv_iload_n hx hb dX5_number_23 rfl (lv_at hl 1 rfl) ?_
    refine ty_iald (v := (S1 43 x1.toNatClampNeg)) X Y 14 16 43 rfl h.1 rfl dX5_number_24 ?_
    have h := h.2
    refine lv_imul hx hb dX5_number_25 ?_
    refine lv_iload_n hx hb dX5_number_26 rfl (lv_at hl 2 rfl) ?_
    refine lv_iadd hx hb dX5_number_27 ?_
    refine ty_iald (v := (S1 36 (((12 : Int32) * (S1 43 x1.toNatClampNeg)) + x2).toNatClampNeg)) X Y 7 7680 36 rfl h.1 rfl dX5_number_28 ?_
    have h := h.2
    exact ty_iret X Y h dX5_number_29
  · have h := ty_f h c9
    refine lv_iconst (v := (0 : Int32)) hx hb dX5_number_9 (by decide) ?_
    refine lv_goto (tgt := 29) hx hb dX5_number_10 (by decide) ?_
    exact ty_iret X Y h dX5_number_29

abbrev rX5_thing : Room := { frames := 1, cells := 0, slots := 0, locals := 23 }
theorem kX5_thing_0 : Cond.fieldLink RX5 75 "TrainYardModel" "thrown" "I" ∈ wsX5_thing := ty_m 2 (by decide +kernel)
theorem kX5_thing_1 : Cond.fieldLink RX5 49 "TrainYardModel" "register" "[I" ∈ wsX5_thing := ty_m 1 (by decide +kernel)
theorem kX5_thing_2 : Cond.fieldLink RX5 22 "TrainYardModel" "numbers" "[I" ∈ wsX5_thing := ty_m 7 (by decide +kernel)
theorem kX5_thing_3 : Cond.fieldLink RX5 19 "TrainYardModel" "references" "[I" ∈ wsX5_thing := ty_m 6 (by decide +kernel)
theorem kX5_thing_4 : Cond.fieldLink RX5 40 "TrainYardModel" "trainNumber" "[I" ∈ wsX5_thing := ty_m 4 (by decide +kernel)
theorem kX5_thing_5 : Cond.fieldLink RX5 13 "TrainYardModel" "home" "[I" ∈ wsX5_thing := ty_m 5 (by decide +kernel)
theorem kX5_thing_6 : Cond.fieldLink RX5 7 "TrainYardModel" "label" "[I" ∈ wsX5_thing := ty_m 3 (by decide +kernel)
theorem iX5_thing_X5 : ∀ w ∈ wsX50, w ∈ wsX5_thing := ty_inp _ [24, 25, 26, 27, 28, 29, 30, 31, 32, 33, 34, 35, 36, 37, 38, 39, 40, 41, 42, 43, 44, 45, 46, 47, 48, 49, 50, 51, 52, 53, 54] (by decide +kernel)
def jX5_thing_35 (K : ty_S → Int32 → Prop)  (x1 : Int32) (x2 : Int32) (t0 : Int32) (S : ty_S) : Prop :=
  (if t0 ≤ (0 : Int32) then (vp_in x1 16 ∧ (if x2 = (0 : Int32) then (vp_in (S 43 x1.toNatClampNeg) 640 ∧ K (ty_st S 60 0 t0) (S 30 (S 43 x1.toNatClampNeg).toNatClampNeg)) else (if x2 = (1 : Int32) then (eX5_place (ty_st S 60 0 t0) (S 43 x1.toNatClampNeg) (fun S3 r3 => K S3 r3)) else (if x2 = (2 : Int32) then (vp_in (S 43 x1.toNatClampNeg) 640 ∧ (eX5_trainOf (ty_st S 60 0 t0) (S 31 (S 43 x1.toNatClampNeg).toNatClampNeg) (fun S2 r2 => (vp_in r2 41 ∧ K S2 (S2 40 r2.toNatClampNeg))))) else (if x2 = (3 : Int32) then (vp_in (S 43 x1.toNatClampNeg) 640 ∧ K (ty_st S 60 0 t0) (S 33 (S 43 x1.toNatClampNeg).toNatClampNeg)) else (vp_in (S 43 x1.toNatClampNeg) 640 ∧ K (ty_st S 60 0 t0) (S 34 (S 43 x1.toNatClampNeg).toNatClampNeg))))))) else K (ty_st S 60 0 t0) (0 : Int32))
set_option maxHeartbeats 4000000 in
set_option maxRecDepth 100000 in
theorem wjX5_thing_35 {p : Program} {l : Launch} {e : Env} {s : State} {m : MethodId} {args : Array Value} {below : List Frame} {meth : Method} {c : Code} {D : va_G} {cA : Nat → ClassId} {q : Nat → Nat} {K : ty_S → Int32 → Prop}  (X : ty_X D cA p s m args meth c cX5_thing 4 (some .int) wsX5_thing RX5)  (x1 : Int32) (x2 : Int32) (t0 : Int32) (S : ty_S) (H : Heap) (locs : List Loc) (ls : Array Slot) (h : jX5_thing_35 K  x1 x2 t0 S) (Y : ty_Y D cA q ty_LM S s H locs) (hl : lv_has ls 4 [(0, .ref (q 0)), (1, .int x1), (2, .int x2)]) : W p l e rX5_thing s m args below meth c H locs 0 0 (ty_MI D cA q ty_LM K below args s) (F0 m 35 ls [.int t0, .ref (q 0)]) := by
  have hx := X.1.1
  have hb := X.1.2.1
  unfold jX5_thing_35 at h
  refine tp_X5_thrown X Y iX5_thing_X5 kX5_thing_0 dX5_thing_35 (fun H locs Y => ?_)
  refine lv_aload_n hx hb dX5_thing_38 rfl (lv_at hl 0 rfl) ?_
  refine tg_X5_thrown (v := t0) X Y iX5_thing_X5 kX5_thing_0 rfl dX5_thing_39 ?_
  refine lv_if_le (tgt := 47) hx hb dX5_thing_42 (by decide) (fun c9 => ?_) (fun c9 => ?_)
  · have h := ty_t h c9
    refine lv_aload_n hx hb dX5_thing_47 rfl (lv_at hl 0 rfl) ?_
    refine tg_X5_register X Y iX5_thing_X5 kX5_thing_1 dX5_thing_48 ?_
    refine lv_iload_n hx hb dX5_thing_51 rfl (lv_at hl 1 rfl) ?_
    refine ty_iald (v := (S 43 x1.toNatClampNeg)) X Y 14 16 43 rfl h.1 rfl dX5_thing_52 ?_
    have h := h.2
    refine lv_istore_n (lv' := [(3, .int (S 43 x1.toNatClampNeg)), (0, .ref (q 0)), (1, .int x1), (2, .int x2)]) hx hb dX5_thing_53 rfl hl (by decide) rfl (fun ls hl => ?_)
    refine lv_iload_n hx hb dX5_thing_54 rfl (lv_at hl 3 rfl) ?_
    refine lv_if_ne (tgt := 67) hx hb dX5_thing_55 (by decide) (fun c9 => ?_) (fun c9 => ?_)
    · have h := ty_f h c9
      refine lv_iload_n hx hb dX5_thing_67 rfl (lv_at hl 3 rfl) ?_
      refine lv_iconst (v := (1 : Int32)) hx hb dX5_thing_68 (by decide) ?_
      refine lv_icmp_ne (tgt := 80) hx hb dX5_thing_69 (by decide) (fun c9 => ?_) (fun c9 => ?_)
      · have h := ty_f h c9
        refine lv_iload_n hx hb dX5_thing_80 rfl (lv_at hl 3 rfl) ?_
        refine lv_iconst (v := (2 : Int32)) hx hb dX5_thing_81 (by decide) ?_
        refine lv_icmp_ne (tgt := 103) hx hb dX5_thing_82 (by decide) (fun c9 => ?_) (fun c9 => ?_)
        · have h := ty_f h c9
          refine lv_iload_n hx hb dX5_thing_103 rfl (lv_at hl 3 rfl) ?_
          refine lv_iconst (v := (3 : Int32)) hx hb dX5_thing_104 (by decide) ?_
          refine lv_icmp_ne (tgt := 117) hx hb dX5_thing_105 (by decide) (fun c9 => ?_) (fun c9 => ?_)
          · have h := ty_f h c9
            refine lv_aload_n hx hb dX5_thing_117 rfl (lv_at hl 1 rfl) ?_
            refine tg_X5_numbers X Y iX5_thing_X5 kX5_thing_2 dX5_thing_118 ?_
            refine lv_iload_n hx hb dX5_thing_121 rfl (lv_at hl 0 rfl) ?_
            refine ty_iald (v := (S 34 (S 43 x1.toNatClampNeg).toNatClampNeg)) X Y 5 640 34 rfl h.1 rfl dX5_thing_122 ?_
            have h := h.2
            exact ty_iret X Y h dX5_thing_123
          · have h := ty_t h c9
            refine lv_aload_n hx hb dX5_thing_108 rfl (lv_at hl 1 rfl) ?_
            refine tg_X5_references X Y iX5_thing_X5 kX5_thing_3 dX5_thing_109 ?_
            refine lv_iload_n hx hb dX5_thing_112 rfl (lv_at hl 0 rfl) ?_
            refine ty_iald (v := (S 33 (S 43 x1.toNatClampNeg).toNatClampNeg)) X Y 4 640 33 rfl h.1 rfl dX5_thing_113 ?_
            have h := h.2
            refine lv_goto (tgt := 123) hx hb dX5_thing_114 (by decide) ?_
            exact ty_iret X Y h dX5_thing_123
        · have h := ty_t h c9
          refine lv_aload_n hx hb dX5_thing_85 rfl (lv_at hl 1 rfl) ?_
          refine tg_X5_trainNumber X Y iX5_thing_X5 kX5_thing_4 dX5_thing_86 ?_
          refine lv_aload_n hx hb dX5_thing_89 rfl (lv_at hl 1 rfl) ?_
          refine lv_aload_n hx hb dX5_thing_90 rfl (lv_at hl 1 rfl) ?_
          refine tg_X5_home X Y iX5_thing_X5 kX5_thing_5 dX5_thing_91 ?_
          refine lv_iload_n hx hb dX5_thing_94 rfl (lv_at hl 0 rfl) ?_
          refine ty_iald (v := (S 31 (S 43 x1.toNatClampNeg).toNatClampNeg)) X Y 2 640 31 rfl h.1 rfl dX5_thing_95 ?_
          have h := h.2
          refine ty_Vi (As := [.int (S 31 (S 43 x1.toNatClampNeg).toNatClampNeg)]) (b := 0) (rest := [.ref (q 11)]) X Y (cX5_trainOf_C l D cA q (ty_st S 60 0 t0) (S 31 (S 43 x1.toNatClampNeg).toNatClampNeg) _ h) rfl rfl (fun hts => cwV 1 hts gX5_thing_X5_trainOf rfl rfl rfl (by decide +kernel) ⟨Nat.le_of_ble_eq_true rfl, Nat.le_of_ble_eq_true rfl⟩) rfl hl.1 (Nat.le_of_ble_eq_true rfl) dX5_thing_96 ⟨Nat.zero_le _, Nat.zero_le _⟩ (fun r2 S2 H locs h Y => ?_)
          refine ty_iald (v := (S2 40 r2.toNatClampNeg)) X Y 11 41 40 rfl h.1 rfl dX5_thing_99 ?_
          have h := h.2
          refine lv_goto (tgt := 123) hx hb dX5_thing_100 (by decide) ?_
          exact ty_iret X Y h dX5_thing_123
      · have h := ty_t h c9
        refine lv_aload_n hx hb dX5_thing_72 rfl (lv_at hl 1 rfl) ?_
        refine lv_iload_n hx hb dX5_thing_73 rfl (lv_at hl 0 rfl) ?_
        refine ty_Vi (As := [.int (S 43 x1.toNatClampNeg)]) (b := 0) (rest := []) X Y (cX5_place_C l D cA q (ty_st S 60 0 t0) (S 43 x1.toNatClampNeg) _ h) rfl rfl (fun hts => cwV 1 hts gX5_thing_X5_place rfl rfl rfl (by decide +kernel) ⟨Nat.le_of_ble_eq_true rfl, Nat.le_of_ble_eq_true rfl⟩) rfl hl.1 (Nat.le_of_ble_eq_true rfl) dX5_thing_74 ⟨Nat.zero_le _, Nat.zero_le _⟩ (fun r3 S3 H locs h Y => ?_)
        refine lv_goto (tgt := 123) hx hb dX5_thing_77 (by decide) ?_
        exact ty_iret X Y h dX5_thing_123
    · have h := ty_t h c9
      refine lv_aload_n hx hb dX5_thing_58 rfl (lv_at hl 1 rfl) ?_
      refine tg_X5_label X Y iX5_thing_X5 kX5_thing_6 dX5_thing_59 ?_
      refine lv_iload_n hx hb dX5_thing_62 rfl (lv_at hl 0 rfl) ?_
      refine ty_iald (v := (S 30 (S 43 x1.toNatClampNeg).toNatClampNeg)) X Y 1 640 30 rfl h.1 rfl dX5_thing_63 ?_
      have h := h.2
      refine lv_goto (tgt := 123) hx hb dX5_thing_64 (by decide) ?_
      exact ty_iret X Y h dX5_thing_123
  · have h := ty_f h c9
    refine lv_iconst (v := (0 : Int32)) hx hb dX5_thing_45 (by decide) ?_
    exact ty_iret X Y h dX5_thing_46
def jX5_thing_17 (K : ty_S → Int32 → Prop)  (x1 : Int32) (x2 : Int32) (S : ty_S) : Prop :=
  jX5_thing_35 K  x1 x2 (1 : Int32) S
set_option maxHeartbeats 4000000 in
set_option maxRecDepth 100000 in
theorem wjX5_thing_17 {p : Program} {l : Launch} {e : Env} {s : State} {m : MethodId} {args : Array Value} {below : List Frame} {meth : Method} {c : Code} {D : va_G} {cA : Nat → ClassId} {q : Nat → Nat} {K : ty_S → Int32 → Prop}  (X : ty_X D cA p s m args meth c cX5_thing 4 (some .int) wsX5_thing RX5)  (x1 : Int32) (x2 : Int32) (S : ty_S) (H : Heap) (locs : List Loc) (ls : Array Slot) (h : jX5_thing_17 K  x1 x2 S) (Y : ty_Y D cA q ty_LM S s H locs) (hl : lv_has ls 4 [(0, .ref (q 0)), (1, .int x1), (2, .int x2)]) : W p l e rX5_thing s m args below meth c H locs 0 0 (ty_MI D cA q ty_LM K below args s) (F0 m 17 ls [.ref (q 0)]) := by
  have hx := X.1.1
  have hb := X.1.2.1
  unfold jX5_thing_17 at h
  refine lv_iconst (v := (1 : Int32)) hx hb dX5_thing_17 (by decide) ?_
  refine lv_goto (tgt := 35) hx hb dX5_thing_18 (by decide) ?_
  exact wjX5_thing_35 X  _ _ _ _ _ _ _ h Y (lv_sub hl [0, 1, 2] rfl)
def eX5_thing (S : ty_S) (x1 : Int32) (x2 : Int32) (K : ty_S → Int32 → Prop) : Prop :=
  (eX5_noRegister S x1 (fun S1 r1 => (if r1 = (0 : Int32) then (if x2 < (0 : Int32) then jX5_thing_17 K  x1 x2 S1 else (if x2 ≤ (4 : Int32) then (vp_in x1 16 ∧ (if (0 : Int32) ≤ (S1 43 x1.toNatClampNeg) then jX5_thing_35 K  x1 x2 (0 : Int32) S1 else jX5_thing_35 K  x1 x2 (2 : Int32) S1)) else jX5_thing_17 K  x1 x2 S1)) else jX5_thing_17 K  x1 x2 S1)))
set_option maxHeartbeats 4000000 in
set_option maxRecDepth 100000 in
theorem cX5_thing_C (l : Launch) (D : va_G) (cA : Nat → ClassId) (q : Nat → Nat) (S : ty_S) (x1 : Int32) (x2 : Int32) (K : ty_S → Int32 → Prop) (h : eX5_thing S x1 x2 K) : ∀ sz, Met l yX5_thing wsX5_thing rX5_thing (ty_Pc D cA q ty_LM S sz [.ref (q 0), .int x1, .int x2]) (ty_Qi D cA q ty_LM sz K) 0 0 (ty_A q ty_LM.length sz) := by
  refine ty_ofM (ret := (some .int)) (maxL := 4) (cc := cX5_thing) (own := RX5) (Qc := fun sz => ty_Qi D cA q ty_LM sz K) (by decide +kernel) rfl (Nat.le_of_ble_eq_true rfl) rfl ?_
  intro p e s m args below meth c ls X hl Y
  have hx := X.1.1
  have hb := X.1.2.1
  have hl : lv_has ls 4 [(0, .ref (q 0)), (1, .int x1), (2, .int x2)] := hl
  unfold eX5_thing at h
  refine lv_aload_n hx hb dX5_thing_0 rfl (lv_at hl 0 rfl) ?_
  refine lv_iload_n hx hb dX5_thing_1 rfl (lv_at hl 1 rfl) ?_
  refine ty_Si (As := [.int x1]) (rest := [.ref (q 0)]) X Y (cX5_noRegister_C l D cA q S x1 _ h) (fun hts => va_cwS 1 hts gX5_thing_X5_noRegister rfl rfl rfl (by decide +kernel) ⟨Nat.le_of_ble_eq_true rfl, Nat.le_of_ble_eq_true rfl⟩) rfl hl.1 (Nat.le_of_ble_eq_true rfl) dX5_thing_2 ⟨Nat.zero_le _, Nat.zero_le _⟩ (fun r1 S1 H locs h Y => ?_)
  refine lv_if_ne (tgt := 17) hx hb dX5_thing_5 (by decide) (fun c9 => ?_) (fun c9 => ?_)
  · have h := ty_f h c9
    exact wjX5_thing_17 X  _ _ _ _ _ _ h Y (lv_sub hl [0, 1, 2] rfl)
  · have h := ty_t h c9
    refine lv_iload_n hx hb dX5_thing_8 rfl (lv_at hl 2 rfl) ?_
    refine lv_if_lt (tgt := 17) hx hb dX5_thing_9 (by decide) (fun c9 => ?_) (fun c9 => ?_)
    · have h := ty_t h c9
      exact wjX5_thing_17 X  _ _ _ _ _ _ h Y (lv_sub hl [0, 1, 2] rfl)
    · have h := ty_f h c9
      refine lv_iload_n hx hb dX5_thing_12 rfl (lv_at hl 2 rfl) ?_
      refine lv_iconst (v := (4 : Int32)) hx hb dX5_thing_13 (by decide) ?_
      refine lv_icmp_le (tgt := 21) hx hb dX5_thing_14 (by decide) (fun c9 => ?_) (fun c9 => ?_)
      · have h := ty_t h c9
        refine lv_aload_n hx hb dX5_thing_21 rfl (lv_at hl 0 rfl) ?_
        refine tg_X5_register X Y iX5_thing_X5 kX5_thing_1 dX5_thing_22 ?_
        refine lv_iload_n hx hb dX5_thing_25 rfl (lv_at hl 1 rfl) ?_
        refine ty_iald (v := (S1 43 x1.toNatClampNeg)) X Y 14 16 43 rfl h.1 rfl dX5_thing_26 ?_
        have h := h.2
        refine lv_if_ge (tgt := 34) hx hb dX5_thing_27 (by decide) (fun c9 => ?_) (fun c9 => ?_)
        · have h := ty_t h c9
          refine lv_iconst (v := (0 : Int32)) hx hb dX5_thing_34 (by decide) ?_
          exact wjX5_thing_35 X  _ _ _ _ _ _ _ h Y (lv_sub hl [0, 1, 2] rfl)
        · have h := ty_f h c9
          refine lv_iconst (v := (2 : Int32)) hx hb dX5_thing_30 (by decide) ?_
          refine lv_goto (tgt := 35) hx hb dX5_thing_31 (by decide) ?_
          exact wjX5_thing_35 X  _ _ _ _ _ _ _ h Y (lv_sub hl [0, 1, 2] rfl)
      · have h := ty_f h c9
        exact wjX5_thing_17 X  _ _ _ _ _ _ h Y (lv_sub hl [0, 1, 2] rfl)

abbrev rX5_label : Room := { frames := 1, cells := 0, slots := 0, locals := 21 }
theorem kX5_label_0 : Cond.fieldLink RX5 49 "TrainYardModel" "register" "[I" ∈ wsX5_label := ty_m 1 (by decide +kernel)
theorem kX5_label_1 : Cond.fieldLink RX5 75 "TrainYardModel" "thrown" "I" ∈ wsX5_label := ty_m 3 (by decide +kernel)
theorem kX5_label_2 : Cond.fieldLink RX5 25 "TrainYardModel" "to" "[I" ∈ wsX5_label := ty_m 4 (by decide +kernel)
theorem kX5_label_3 : Cond.fieldLink RX5 19 "TrainYardModel" "references" "[I" ∈ wsX5_label := ty_m 2 (by decide +kernel)
theorem iX5_label_X5 : ∀ w ∈ wsX50, w ∈ wsX5_label := ty_inp _ [14, 15, 16, 17, 18, 19, 20, 21, 22, 23, 24, 25, 26, 27, 28, 29, 30, 31, 32, 33, 34, 35, 36, 37, 38, 39, 40, 41, 42, 43, 44] (by decide +kernel)
def jX5_label_49 (K : ty_S → Int32 → Prop)  (x1 : Int32) (x2 : Int32) (t0 : Int32) (S : ty_S) : Prop :=
  (if t0 ≤ (0 : Int32) then (vp_in x1 16 ∧ (vp_in (((12 : Int32) * (S 43 x1.toNatClampNeg)) + x2) 7680 ∧ (eX5_labelOf (ty_st S 60 0 t0) (S 35 (((12 : Int32) * (S 43 x1.toNatClampNeg)) + x2).toNatClampNeg) (fun S2 r2 => K S2 r2)))) else K (ty_st S 60 0 t0) (0 : Int32))
set_option maxHeartbeats 4000000 in
set_option maxRecDepth 100000 in
theorem wjX5_label_49 {p : Program} {l : Launch} {e : Env} {s : State} {m : MethodId} {args : Array Value} {below : List Frame} {meth : Method} {c : Code} {D : va_G} {cA : Nat → ClassId} {q : Nat → Nat} {K : ty_S → Int32 → Prop}  (X : ty_X D cA p s m args meth c cX5_label 3 (some .int) wsX5_label RX5)  (x1 : Int32) (x2 : Int32) (t0 : Int32) (S : ty_S) (H : Heap) (locs : List Loc) (ls : Array Slot) (h : jX5_label_49 K  x1 x2 t0 S) (Y : ty_Y D cA q ty_LM S s H locs) (hl : lv_has ls 3 [(0, .ref (q 0)), (1, .int x1), (2, .int x2)]) : W p l e rX5_label s m args below meth c H locs 0 0 (ty_MI D cA q ty_LM K below args s) (F0 m 49 ls [.int t0, .ref (q 0)]) := by
  have hx := X.1.1
  have hb := X.1.2.1
  unfold jX5_label_49 at h
  refine tp_X5_thrown X Y iX5_label_X5 kX5_label_1 dX5_label_49 (fun H locs Y => ?_)
  refine lv_aload_n hx hb dX5_label_52 rfl (lv_at hl 0 rfl) ?_
  refine tg_X5_thrown (v := t0) X Y iX5_label_X5 kX5_label_1 rfl dX5_label_53 ?_
  refine lv_if_le (tgt := 63) hx hb dX5_label_56 (by decide) (fun c9 => ?_) (fun c9 => ?_)
  · have h := ty_t h c9
    refine lv_aload_n hx hb dX5_label_63 rfl (lv_at hl 0 rfl) ?_
    refine lv_aload_n hx hb dX5_label_64 rfl (lv_at hl 0 rfl) ?_
    refine tg_X5_to X Y iX5_label_X5 kX5_label_2 dX5_label_65 ?_
    refine lv_bipush (v := (12 : Int32)) hx hb dX5_label_68 (by decide) ?_
    refine lv_aload_n hx hb dX5_label_70 rfl (lv_at hl 0 rfl) ?_
    refine tg_X5_register X Y iX5_label_X5 kX5_label_0 dX5_label_71 ?_
    refine lv_iload_n hx hb dX5_label_74 rfl (lv_at hl 1 rfl) ?_
    refine ty_iald (v := (S 43 x1.toNatClampNeg)) X Y 14 16 43 rfl h.1 rfl dX5_label_75 ?_
    have h := h.2
    refine lv_imul hx hb dX5_label_76 ?_
    refine lv_iload_n hx hb dX5_label_77 rfl (lv_at hl 2 rfl) ?_
    refine lv_iadd hx hb dX5_label_78 ?_
    refine ty_iald (v := (S 35 (((12 : Int32) * (S 43 x1.toNatClampNeg)) + x2).toNatClampNeg)) X Y 6 7680 35 rfl h.1 rfl dX5_label_79 ?_
    have h := h.2
    refine ty_Vi (As := [.int (S 35 (((12 : Int32) * (S 43 x1.toNatClampNeg)) + x2).toNatClampNeg)]) (b := 0) (rest := []) X Y (cX5_labelOf_C l D cA q (ty_st S 60 0 t0) (S 35 (((12 : Int32) * (S 43 x1.toNatClampNeg)) + x2).toNatClampNeg) _ h) rfl rfl (fun hts => cwV 1 hts gX5_label_X5_labelOf rfl rfl rfl (by decide +kernel) ⟨Nat.le_of_ble_eq_true rfl, Nat.le_of_ble_eq_true rfl⟩) rfl hl.1 (Nat.le_of_ble_eq_true rfl) dX5_label_80 ⟨Nat.zero_le _, Nat.zero_le _⟩ (fun r2 S2 H locs h Y => ?_)
    exact ty_iret X Y h dX5_label_83
  · have h := ty_f h c9
    refine lv_iconst (v := (0 : Int32)) hx hb dX5_label_59 (by decide) ?_
    refine lv_goto (tgt := 83) hx hb dX5_label_60 (by decide) ?_
    exact ty_iret X Y h dX5_label_83
def jX5_label_44 (K : ty_S → Int32 → Prop)  (x1 : Int32) (x2 : Int32) (S : ty_S) : Prop :=
  jX5_label_49 K  x1 x2 (3 : Int32) S
set_option maxHeartbeats 4000000 in
set_option maxRecDepth 100000 in
theorem wjX5_label_44 {p : Program} {l : Launch} {e : Env} {s : State} {m : MethodId} {args : Array Value} {below : List Frame} {meth : Method} {c : Code} {D : va_G} {cA : Nat → ClassId} {q : Nat → Nat} {K : ty_S → Int32 → Prop}  (X : ty_X D cA p s m args meth c cX5_label 3 (some .int) wsX5_label RX5)  (x1 : Int32) (x2 : Int32) (S : ty_S) (H : Heap) (locs : List Loc) (ls : Array Slot) (h : jX5_label_44 K  x1 x2 S) (Y : ty_Y D cA q ty_LM S s H locs) (hl : lv_has ls 3 [(0, .ref (q 0)), (1, .int x1), (2, .int x2)]) : W p l e rX5_label s m args below meth c H locs 0 0 (ty_MI D cA q ty_LM K below args s) (F0 m 44 ls [.ref (q 0)]) := by
  have hx := X.1.1
  have hb := X.1.2.1
  unfold jX5_label_44 at h
  refine lv_iconst (v := (3 : Int32)) hx hb dX5_label_44 (by decide) ?_
  refine lv_goto (tgt := 49) hx hb dX5_label_45 (by decide) ?_
  exact wjX5_label_49 X  _ _ _ _ _ _ _ h Y (lv_sub hl [0, 1, 2] rfl)
def eX5_label (S : ty_S) (x1 : Int32) (x2 : Int32) (K : ty_S → Int32 → Prop) : Prop :=
  (eX5_noRegister S x1 (fun S1 r1 => (if r1 = (0 : Int32) then (vp_in x1 16 ∧ (if (0 : Int32) ≤ (S1 43 x1.toNatClampNeg) then (if x2 < (0 : Int32) then jX5_label_44 K  x1 x2 S1 else (vp_in x1 16 ∧ (vp_in (S1 43 x1.toNatClampNeg) 640 ∧ (if x2 < (S1 33 (S1 43 x1.toNatClampNeg).toNatClampNeg) then jX5_label_49 K  x1 x2 (0 : Int32) S1 else jX5_label_44 K  x1 x2 S1)))) else jX5_label_49 K  x1 x2 (2 : Int32) S1)) else jX5_label_49 K  x1 x2 (1 : Int32) S1)))
set_option maxHeartbeats 4000000 in
set_option maxRecDepth 100000 in
theorem cX5_label_C (l : Launch) (D : va_G) (cA : Nat → ClassId) (q : Nat → Nat) (S : ty_S) (x1 : Int32) (x2 : Int32) (K : ty_S → Int32 → Prop) (h : eX5_label S x1 x2 K) : ∀ sz, Met l yX5_label wsX5_label rX5_label (ty_Pc D cA q ty_LM S sz [.ref (q 0), .int x1, .int x2]) (ty_Qi D cA q ty_LM sz K) 0 0 (ty_A q ty_LM.length sz) := by
  refine ty_ofM (ret := (some .int)) (maxL := 3) (cc := cX5_label) (own := RX5) (Qc := fun sz => ty_Qi D cA q ty_LM sz K) (by decide +kernel) rfl (Nat.le_of_ble_eq_true rfl) rfl ?_
  intro p e s m args below meth c ls X hl Y
  have hx := X.1.1
  have hb := X.1.2.1
  have hl : lv_has ls 3 [(0, .ref (q 0)), (1, .int x1), (2, .int x2)] := hl
  unfold eX5_label at h
  refine lv_aload_n hx hb dX5_label_0 rfl (lv_at hl 0 rfl) ?_
  refine lv_iload_n hx hb dX5_label_1 rfl (lv_at hl 1 rfl) ?_
  refine ty_Si (As := [.int x1]) (rest := [.ref (q 0)]) X Y (cX5_noRegister_C l D cA q S x1 _ h) (fun hts => va_cwS 1 hts gX5_label_X5_noRegister rfl rfl rfl (by decide +kernel) ⟨Nat.le_of_ble_eq_true rfl, Nat.le_of_ble_eq_true rfl⟩) rfl hl.1 (Nat.le_of_ble_eq_true rfl) dX5_label_2 ⟨Nat.zero_le _, Nat.zero_le _⟩ (fun r1 S1 H locs h Y => ?_)
  refine lv_if_eq (tgt := 12) hx hb dX5_label_5 (by decide) (fun c9 => ?_) (fun c9 => ?_)
  · have h := ty_t h c9
    refine lv_aload_n hx hb dX5_label_12 rfl (lv_at hl 0 rfl) ?_
    refine tg_X5_register X Y iX5_label_X5 kX5_label_0 dX5_label_13 ?_
    refine lv_iload_n hx hb dX5_label_16 rfl (lv_at hl 1 rfl) ?_
    refine ty_iald (v := (S1 43 x1.toNatClampNeg)) X Y 14 16 43 rfl h.1 rfl dX5_label_17 ?_
    have h := h.2
    refine lv_if_ge (tgt := 25) hx hb dX5_label_18 (by decide) (fun c9 => ?_) (fun c9 => ?_)
    · have h := ty_t h c9
      refine lv_iload_n hx hb dX5_label_25 rfl (lv_at hl 2 rfl) ?_
      refine lv_if_lt (tgt := 44) hx hb dX5_label_26 (by decide) (fun c9 => ?_) (fun c9 => ?_)
      · have h := ty_t h c9
        exact wjX5_label_44 X  _ _ _ _ _ _ h Y (lv_sub hl [0, 1, 2] rfl)
      · have h := ty_f h c9
        refine lv_iload_n hx hb dX5_label_29 rfl (lv_at hl 2 rfl) ?_
        refine lv_aload_n hx hb dX5_label_30 rfl (lv_at hl 0 rfl) ?_
        refine tg_X5_references X Y iX5_label_X5 kX5_label_3 dX5_label_31 ?_
        refine lv_aload_n hx hb dX5_label_34 rfl (lv_at hl 0 rfl) ?_
        refine tg_X5_register X Y iX5_label_X5 kX5_label_0 dX5_label_35 ?_
        refine lv_iload_n hx hb dX5_label_38 rfl (lv_at hl 1 rfl) ?_
        refine ty_iald (v := (S1 43 x1.toNatClampNeg)) X Y 14 16 43 rfl h.1 rfl dX5_label_39 ?_
        have h := h.2
        refine ty_iald (v := (S1 33 (S1 43 x1.toNatClampNeg).toNatClampNeg)) X Y 4 640 33 rfl h.1 rfl dX5_label_40 ?_
        have h := h.2
        refine lv_icmp_lt (tgt := 48) hx hb dX5_label_41 (by decide) (fun c9 => ?_) (fun c9 => ?_)
        · have h := ty_t h c9
          refine lv_iconst (v := (0 : Int32)) hx hb dX5_label_48 (by decide) ?_
          exact wjX5_label_49 X  _ _ _ _ _ _ _ h Y (lv_sub hl [0, 1, 2] rfl)
        · have h := ty_f h c9
          exact wjX5_label_44 X  _ _ _ _ _ _ h Y (lv_sub hl [0, 1, 2] rfl)
    · have h := ty_f h c9
      refine lv_iconst (v := (2 : Int32)) hx hb dX5_label_21 (by decide) ?_
      refine lv_goto (tgt := 49) hx hb dX5_label_22 (by decide) ?_
      exact wjX5_label_49 X  _ _ _ _ _ _ _ h Y (lv_sub hl [0, 1, 2] rfl)
  · have h := ty_f h c9
    refine lv_iconst (v := (1 : Int32)) hx hb dX5_label_8 (by decide) ?_
    refine lv_goto (tgt := 49) hx hb dX5_label_9 (by decide) ?_
    exact wjX5_label_49 X  _ _ _ _ _ _ _ h Y (lv_sub hl [0, 1, 2] rfl)

abbrev rX5_train : Room := { frames := 0, cells := 0, slots := 0, locals := 0 }
theorem kX5_train_0 : Cond.fieldLink RX5 75 "TrainYardModel" "thrown" "I" ∈ wsX5_train := ty_m 2 (by decide +kernel)
theorem kX5_train_1 : Cond.fieldLink RX5 43 "TrainYardModel" "trainSize" "[I" ∈ wsX5_train := ty_m 3 (by decide +kernel)
theorem kX5_train_2 : Cond.fieldLink RX5 40 "TrainYardModel" "trainNumber" "[I" ∈ wsX5_train := ty_m 6 (by decide +kernel)
theorem kX5_train_3 : Cond.fieldLink RX5 34 "TrainYardModel" "count" "[I" ∈ wsX5_train := ty_m 4 (by decide +kernel)
theorem kX5_train_4 : Cond.fieldLink RX5 46 "TrainYardModel" "trainCar" "[I" ∈ wsX5_train := ty_m 5 (by decide +kernel)
theorem kX5_train_5 : Cond.fieldLink RX5 78 "TrainYardModel" "trains" "I" ∈ wsX5_train := ty_m 1 (by decide +kernel)
theorem iX5_train_X5 : ∀ w ∈ wsX50, w ∈ wsX5_train := ty_inp _ [7, 8, 9, 10, 11, 12, 13, 14, 15, 16, 17, 18, 19, 20, 21, 22, 23, 24, 25, 26, 27, 28, 29, 30, 31, 32, 33, 34, 35, 36, 37] (by decide +kernel)
def lX5_train_44 (K : ty_S → Int32 → Prop)  : Nat → Int32 → Int32 → Int32 → Int32 → ty_S → Prop
  | 0, _, _, _, _, _ => False
  | n + 1, x1, x2, x3, x4, S => (vp_in x1 41 ∧ (if (S 41 x1.toNatClampNeg) ≤ x4 then (if x2 = (0 : Int32) then (vp_in x1 41 ∧ K S (S 40 x1.toNatClampNeg)) else (if x2 = (1 : Int32) then (vp_in x1 41 ∧ K S (S 41 x1.toNatClampNeg)) else K S x3)) else (vp_in (((40 : Int32) * x1) + x4) 1640 ∧ (vp_in (S 42 (((40 : Int32) * x1) + x4).toNatClampNeg) 40 ∧ lX5_train_44 K  n x1 x2 (x3 + (S 38 (S 42 (((40 : Int32) * x1) + x4).toNatClampNeg).toNatClampNeg)) (x4 + (1 : Int32)) S))))
set_option maxHeartbeats 4000000 in
set_option maxRecDepth 100000 in
theorem wlX5_train_44 {p : Program} {l : Launch} {e : Env} {s : State} {m : MethodId} {args : Array Value} {below : List Frame} {meth : Method} {c : Code} {D : va_G} {cA : Nat → ClassId} {q : Nat → Nat} {K : ty_S → Int32 → Prop}  (X : ty_X D cA p s m args meth c cX5_train 5 (some .int) wsX5_train RX5)  : ∀ (n : Nat) (x1 : Int32) (x2 : Int32) (x3 : Int32) (x4 : Int32) (S : ty_S) (H : Heap) (locs : List Loc) (ls : Array Slot), lX5_train_44 K  n x1 x2 x3 x4 S → ty_Y D cA q ty_LM S s H locs → lv_has ls 5 [(0, .ref (q 0)), (1, .int x1), (2, .int x2), (3, .int x3), (4, .int x4)] → W p l e rX5_train s m args below meth c H locs 0 0 (ty_MI D cA q ty_LM K below args s) (F0 m 44 ls []) := by
  have hx := X.1.1
  have hb := X.1.2.1
  intro n
  induction n with
  | zero =>
    intro x1 x2 x3 x4 S H locs ls h
    exact False.elim h
  | succ n ih =>
    intro x1 x2 x3 x4 S H locs ls h Y hl
    unfold lX5_train_44 at h
    refine lv_iload hx hb dX5_train_44 (lv_at hl 4 rfl) ?_
    refine lv_aload_n hx hb dX5_train_46 rfl (lv_at hl 0 rfl) ?_
    refine tg_X5_trainSize X Y iX5_train_X5 kX5_train_1 dX5_train_47 ?_
    refine lv_iload_n hx hb dX5_train_50 rfl (lv_at hl 1 rfl) ?_
    refine ty_iald (v := (S 41 x1.toNatClampNeg)) X Y 12 41 41 rfl h.1 rfl dX5_train_51 ?_
    have h := h.2
    refine lv_icmp_ge (tgt := 81) hx hb dX5_train_52 (by decide) (fun c9 => ?_) (fun c9 => ?_)
    · have h := ty_t h c9
      refine lv_iload_n hx hb dX5_train_81 rfl (lv_at hl 2 rfl) ?_
      refine lv_if_ne (tgt := 94) hx hb dX5_train_82 (by decide) (fun c9 => ?_) (fun c9 => ?_)
      · have h := ty_f h c9
        refine lv_iload_n hx hb dX5_train_94 rfl (lv_at hl 2 rfl) ?_
        refine lv_iconst (v := (1 : Int32)) hx hb dX5_train_95 (by decide) ?_
        refine lv_icmp_ne (tgt := 108) hx hb dX5_train_96 (by decide) (fun c9 => ?_) (fun c9 => ?_)
        · have h := ty_f h c9
          refine lv_iload_n hx hb dX5_train_108 rfl (lv_at hl 3 rfl) ?_
          exact ty_iret X Y h dX5_train_109
        · have h := ty_t h c9
          refine lv_aload_n hx hb dX5_train_99 rfl (lv_at hl 0 rfl) ?_
          refine tg_X5_trainSize X Y iX5_train_X5 kX5_train_1 dX5_train_100 ?_
          refine lv_iload_n hx hb dX5_train_103 rfl (lv_at hl 1 rfl) ?_
          refine ty_iald (v := (S 41 x1.toNatClampNeg)) X Y 12 41 41 rfl h.1 rfl dX5_train_104 ?_
          have h := h.2
          refine lv_goto (tgt := 109) hx hb dX5_train_105 (by decide) ?_
          exact ty_iret X Y h dX5_train_109
      · have h := ty_t h c9
        refine lv_aload_n hx hb dX5_train_85 rfl (lv_at hl 0 rfl) ?_
        refine tg_X5_trainNumber X Y iX5_train_X5 kX5_train_2 dX5_train_86 ?_
        refine lv_iload_n hx hb dX5_train_89 rfl (lv_at hl 1 rfl) ?_
        refine ty_iald (v := (S 40 x1.toNatClampNeg)) X Y 11 41 40 rfl h.1 rfl dX5_train_90 ?_
        have h := h.2
        refine lv_goto (tgt := 109) hx hb dX5_train_91 (by decide) ?_
        exact ty_iret X Y h dX5_train_109
    · have h := ty_f h c9
      refine lv_iload_n hx hb dX5_train_55 rfl (lv_at hl 3 rfl) ?_
      refine lv_aload_n hx hb dX5_train_56 rfl (lv_at hl 0 rfl) ?_
      refine tg_X5_count X Y iX5_train_X5 kX5_train_3 dX5_train_57 ?_
      refine lv_aload_n hx hb dX5_train_60 rfl (lv_at hl 0 rfl) ?_
      refine tg_X5_trainCar X Y iX5_train_X5 kX5_train_4 dX5_train_61 ?_
      refine lv_bipush (v := (40 : Int32)) hx hb dX5_train_64 (by decide) ?_
      refine lv_iload_n hx hb dX5_train_66 rfl (lv_at hl 1 rfl) ?_
      refine lv_imul hx hb dX5_train_67 ?_
      refine lv_iload hx hb dX5_train_68 (lv_at hl 4 rfl) ?_
      refine lv_iadd hx hb dX5_train_70 ?_
      refine ty_iald (v := (S 42 (((40 : Int32) * x1) + x4).toNatClampNeg)) X Y 13 1640 42 rfl h.1 rfl dX5_train_71 ?_
      have h := h.2
      refine ty_iald (v := (S 38 (S 42 (((40 : Int32) * x1) + x4).toNatClampNeg).toNatClampNeg)) X Y 9 40 38 rfl h.1 rfl dX5_train_72 ?_
      have h := h.2
      refine lv_iadd hx hb dX5_train_73 ?_
      refine lv_istore_n (lv' := [(3, .int (x3 + (S 38 (S 42 (((40 : Int32) * x1) + x4).toNatClampNeg).toNatClampNeg))), (0, .ref (q 0)), (1, .int x1), (2, .int x2), (4, .int x4)]) hx hb dX5_train_74 rfl hl (by decide) rfl (fun ls hl => ?_)
      refine lv_iinc (v := (x4 + (1 : Int32))) (lv' := [(4, .int (x4 + (1 : Int32))), (3, .int (x3 + (S 38 (S 42 (((40 : Int32) * x1) + x4).toNatClampNeg).toNatClampNeg))), (0, .ref (q 0)), (1, .int x1), (2, .int x2)]) hx hb dX5_train_75 hl (k := 4) rfl rfl (by decide) rfl (fun ls hl => ?_)
      refine lv_goto (tgt := 44) hx hb dX5_train_78 (by decide) ?_
      exact ih _ _ _ _ _ _ _ _ h Y (lv_sub hl [2, 3, 4, 1, 0] rfl)
def jX5_train_27 (K : ty_S → Int32 → Prop)  (x1 : Int32) (x2 : Int32) (t0 : Int32) (S : ty_S) : Prop :=
  (if t0 ≤ (0 : Int32) then ∃ n9, lX5_train_44 K  n9 x1 x2 (0 : Int32) (0 : Int32) (ty_st S 60 0 t0) else K (ty_st S 60 0 t0) (0 : Int32))
set_option maxHeartbeats 4000000 in
set_option maxRecDepth 100000 in
theorem wjX5_train_27 {p : Program} {l : Launch} {e : Env} {s : State} {m : MethodId} {args : Array Value} {below : List Frame} {meth : Method} {c : Code} {D : va_G} {cA : Nat → ClassId} {q : Nat → Nat} {K : ty_S → Int32 → Prop}  (X : ty_X D cA p s m args meth c cX5_train 5 (some .int) wsX5_train RX5)  (x1 : Int32) (x2 : Int32) (t0 : Int32) (S : ty_S) (H : Heap) (locs : List Loc) (ls : Array Slot) (h : jX5_train_27 K  x1 x2 t0 S) (Y : ty_Y D cA q ty_LM S s H locs) (hl : lv_has ls 5 [(0, .ref (q 0)), (1, .int x1), (2, .int x2)]) : W p l e rX5_train s m args below meth c H locs 0 0 (ty_MI D cA q ty_LM K below args s) (F0 m 27 ls [.int t0, .ref (q 0)]) := by
  have hx := X.1.1
  have hb := X.1.2.1
  unfold jX5_train_27 at h
  refine tp_X5_thrown X Y iX5_train_X5 kX5_train_0 dX5_train_27 (fun H locs Y => ?_)
  refine lv_aload_n hx hb dX5_train_30 rfl (lv_at hl 0 rfl) ?_
  refine tg_X5_thrown (v := t0) X Y iX5_train_X5 kX5_train_0 rfl dX5_train_31 ?_
  refine lv_if_le (tgt := 39) hx hb dX5_train_34 (by decide) (fun c9 => ?_) (fun c9 => ?_)
  · have h := ty_t h c9
    refine lv_iconst (v := (0 : Int32)) hx hb dX5_train_39 (by decide) ?_
    refine lv_istore_n (lv' := [(3, .int (0 : Int32)), (0, .ref (q 0)), (1, .int x1), (2, .int x2)]) hx hb dX5_train_40 rfl hl (by decide) rfl (fun ls hl => ?_)
    refine lv_iconst (v := (0 : Int32)) hx hb dX5_train_41 (by decide) ?_
    refine lv_istore (lv' := [(4, .int (0 : Int32)), (3, .int (0 : Int32)), (0, .ref (q 0)), (1, .int x1), (2, .int x2)]) hx hb dX5_train_42 hl (by decide) rfl (fun ls hl => ?_)
    obtain ⟨n9, h⟩ := h
    exact wlX5_train_44 X  n9 _ _ _ _ _ _ _ _ h Y (lv_sub hl [2, 3, 4, 1, 0] rfl)
  · have h := ty_f h c9
    refine lv_iconst (v := (0 : Int32)) hx hb dX5_train_37 (by decide) ?_
    exact ty_iret X Y h dX5_train_38
def jX5_train_22 (K : ty_S → Int32 → Prop)  (x1 : Int32) (x2 : Int32) (S : ty_S) : Prop :=
  jX5_train_27 K  x1 x2 (1 : Int32) S
set_option maxHeartbeats 4000000 in
set_option maxRecDepth 100000 in
theorem wjX5_train_22 {p : Program} {l : Launch} {e : Env} {s : State} {m : MethodId} {args : Array Value} {below : List Frame} {meth : Method} {c : Code} {D : va_G} {cA : Nat → ClassId} {q : Nat → Nat} {K : ty_S → Int32 → Prop}  (X : ty_X D cA p s m args meth c cX5_train 5 (some .int) wsX5_train RX5)  (x1 : Int32) (x2 : Int32) (S : ty_S) (H : Heap) (locs : List Loc) (ls : Array Slot) (h : jX5_train_22 K  x1 x2 S) (Y : ty_Y D cA q ty_LM S s H locs) (hl : lv_has ls 5 [(0, .ref (q 0)), (1, .int x1), (2, .int x2)]) : W p l e rX5_train s m args below meth c H locs 0 0 (ty_MI D cA q ty_LM K below args s) (F0 m 22 ls [.ref (q 0)]) := by
  have hx := X.1.1
  have hb := X.1.2.1
  unfold jX5_train_22 at h
  refine lv_iconst (v := (1 : Int32)) hx hb dX5_train_22 (by decide) ?_
  refine lv_goto (tgt := 27) hx hb dX5_train_23 (by decide) ?_
  exact wjX5_train_27 X  _ _ _ _ _ _ _ h Y (lv_sub hl [0, 1, 2] rfl)
def eX5_train (S : ty_S) (x1 : Int32) (x2 : Int32) (K : ty_S → Int32 → Prop) : Prop :=
  (if x1 < (0 : Int32) then jX5_train_22 K  x1 x2 S else (if (S 50 0) ≤ x1 then jX5_train_22 K  x1 x2 S else (if x2 < (0 : Int32) then jX5_train_22 K  x1 x2 S else (if x2 ≤ (2 : Int32) then jX5_train_27 K  x1 x2 (0 : Int32) S else jX5_train_22 K  x1 x2 S))))
set_option maxHeartbeats 4000000 in
set_option maxRecDepth 100000 in
theorem cX5_train_C (l : Launch) (D : va_G) (cA : Nat → ClassId) (q : Nat → Nat) (S : ty_S) (x1 : Int32) (x2 : Int32) (K : ty_S → Int32 → Prop) (h : eX5_train S x1 x2 K) : ∀ sz, Met l yX5_train wsX5_train rX5_train (ty_Pc D cA q ty_LM S sz [.ref (q 0), .int x1, .int x2]) (ty_Qi D cA q ty_LM sz K) 0 0 (ty_A q ty_LM.length sz) := by
  refine ty_ofM (ret := (some .int)) (maxL := 5) (cc := cX5_train) (own := RX5) (Qc := fun sz => ty_Qi D cA q ty_LM sz K) (by decide +kernel) rfl (Nat.le_of_ble_eq_true rfl) rfl ?_
  intro p e s m args below meth c ls X hl Y
  have hx := X.1.1
  have hb := X.1.2.1
  have hl : lv_has ls 5 [(0, .ref (q 0)), (1, .int x1), (2, .int x2)] := hl
  unfold eX5_train at h
  refine lv_aload_n hx hb dX5_train_0 rfl (lv_at hl 0 rfl) ?_
  refine lv_iload_n hx hb dX5_train_1 rfl (lv_at hl 1 rfl) ?_
  refine lv_if_lt (tgt := 22) hx hb dX5_train_2 (by decide) (fun c9 => ?_) (fun c9 => ?_)
  · have h := ty_t h c9
    exact wjX5_train_22 X  _ _ _ _ _ _ h Y (lv_sub hl [0, 1, 2] rfl)
  · have h := ty_f h c9
    refine lv_iload_n hx hb dX5_train_5 rfl (lv_at hl 1 rfl) ?_
    refine lv_aload_n hx hb dX5_train_6 rfl (lv_at hl 0 rfl) ?_
    refine tg_X5_trains (v := (S 50 0)) X Y iX5_train_X5 kX5_train_5 rfl dX5_train_7 ?_
    refine lv_icmp_ge (tgt := 22) hx hb dX5_train_10 (by decide) (fun c9 => ?_) (fun c9 => ?_)
    · have h := ty_t h c9
      exact wjX5_train_22 X  _ _ _ _ _ _ h Y (lv_sub hl [0, 1, 2] rfl)
    · have h := ty_f h c9
      refine lv_iload_n hx hb dX5_train_13 rfl (lv_at hl 2 rfl) ?_
      refine lv_if_lt (tgt := 22) hx hb dX5_train_14 (by decide) (fun c9 => ?_) (fun c9 => ?_)
      · have h := ty_t h c9
        exact wjX5_train_22 X  _ _ _ _ _ _ h Y (lv_sub hl [0, 1, 2] rfl)
      · have h := ty_f h c9
        refine lv_iload_n hx hb dX5_train_17 rfl (lv_at hl 2 rfl) ?_
        refine lv_iconst (v := (2 : Int32)) hx hb dX5_train_18 (by decide) ?_
        refine lv_icmp_le (tgt := 26) hx hb dX5_train_19 (by decide) (fun c9 => ?_) (fun c9 => ?_)
        · have h := ty_t h c9
          refine lv_iconst (v := (0 : Int32)) hx hb dX5_train_26 (by decide) ?_
          exact wjX5_train_27 X  _ _ _ _ _ _ _ h Y (lv_sub hl [0, 1, 2] rfl)
        · have h := ty_f h c9
          exact wjX5_train_22 X  _ _ _ _ _ _ h Y (lv_sub hl [0, 1, 2] rfl)

abbrev rX5_car : Room := { frames := 0, cells := 0, slots := 0, locals := 0 }
theorem kX5_car_0 : Cond.fieldLink RX5 75 "TrainYardModel" "thrown" "I" ∈ wsX5_car := ty_m 3 (by decide +kernel)
theorem kX5_car_1 : Cond.fieldLink RX5 46 "TrainYardModel" "trainCar" "[I" ∈ wsX5_car := ty_m 4 (by decide +kernel)
theorem kX5_car_2 : Cond.fieldLink RX5 78 "TrainYardModel" "trains" "I" ∈ wsX5_car := ty_m 1 (by decide +kernel)
theorem kX5_car_3 : Cond.fieldLink RX5 43 "TrainYardModel" "trainSize" "[I" ∈ wsX5_car := ty_m 2 (by decide +kernel)
theorem iX5_car_X5 : ∀ w ∈ wsX50, w ∈ wsX5_car := ty_inp _ [5, 6, 7, 8, 9, 10, 11, 12, 13, 14, 15, 16, 17, 18, 19, 20, 21, 22, 23, 24, 25, 26, 27, 28, 29, 30, 31, 32, 33, 34, 35] (by decide +kernel)
def jX5_car_32 (K : ty_S → Int32 → Prop)  (x1 : Int32) (x2 : Int32) (t0 : Int32) (S : ty_S) : Prop :=
  (if t0 ≤ (0 : Int32) then (vp_in (((40 : Int32) * x1) + x2) 1640 ∧ K (ty_st S 60 0 t0) (S 42 (((40 : Int32) * x1) + x2).toNatClampNeg)) else K (ty_st S 60 0 t0) (0 : Int32))
set_option maxHeartbeats 4000000 in
set_option maxRecDepth 100000 in
theorem wjX5_car_32 {p : Program} {l : Launch} {e : Env} {s : State} {m : MethodId} {args : Array Value} {below : List Frame} {meth : Method} {c : Code} {D : va_G} {cA : Nat → ClassId} {q : Nat → Nat} {K : ty_S → Int32 → Prop}  (X : ty_X D cA p s m args meth c cX5_car 3 (some .int) wsX5_car RX5)  (x1 : Int32) (x2 : Int32) (t0 : Int32) (S : ty_S) (H : Heap) (locs : List Loc) (ls : Array Slot) (h : jX5_car_32 K  x1 x2 t0 S) (Y : ty_Y D cA q ty_LM S s H locs) (hl : lv_has ls 3 [(0, .ref (q 0)), (1, .int x1), (2, .int x2)]) : W p l e rX5_car s m args below meth c H locs 0 0 (ty_MI D cA q ty_LM K below args s) (F0 m 32 ls [.int t0, .ref (q 0)]) := by
  have hx := X.1.1
  have hb := X.1.2.1
  unfold jX5_car_32 at h
  refine tp_X5_thrown X Y iX5_car_X5 kX5_car_0 dX5_car_32 (fun H locs Y => ?_)
  refine lv_aload_n hx hb dX5_car_35 rfl (lv_at hl 0 rfl) ?_
  refine tg_X5_thrown (v := t0) X Y iX5_car_X5 kX5_car_0 rfl dX5_car_36 ?_
  refine lv_if_le (tgt := 46) hx hb dX5_car_39 (by decide) (fun c9 => ?_) (fun c9 => ?_)
  · have h := ty_t h c9
    refine lv_aload_n hx hb dX5_car_46 rfl (lv_at hl 0 rfl) ?_
    refine tg_X5_trainCar X Y iX5_car_X5 kX5_car_1 dX5_car_47 ?_
    refine lv_bipush (v := (40 : Int32)) hx hb dX5_car_50 (by decide) ?_
    refine lv_iload_n hx hb dX5_car_52 rfl (lv_at hl 1 rfl) ?_
    refine lv_imul hx hb dX5_car_53 ?_
    refine lv_iload_n hx hb dX5_car_54 rfl (lv_at hl 2 rfl) ?_
    refine lv_iadd hx hb dX5_car_55 ?_
    refine ty_iald (v := (S 42 (((40 : Int32) * x1) + x2).toNatClampNeg)) X Y 13 1640 42 rfl h.1 rfl dX5_car_56 ?_
    have h := h.2
    exact ty_iret X Y h dX5_car_57
  · have h := ty_f h c9
    refine lv_iconst (v := (0 : Int32)) hx hb dX5_car_42 (by decide) ?_
    refine lv_goto (tgt := 57) hx hb dX5_car_43 (by decide) ?_
    exact ty_iret X Y h dX5_car_57
def jX5_car_27 (K : ty_S → Int32 → Prop)  (x1 : Int32) (x2 : Int32) (S : ty_S) : Prop :=
  jX5_car_32 K  x1 x2 (1 : Int32) S
set_option maxHeartbeats 4000000 in
set_option maxRecDepth 100000 in
theorem wjX5_car_27 {p : Program} {l : Launch} {e : Env} {s : State} {m : MethodId} {args : Array Value} {below : List Frame} {meth : Method} {c : Code} {D : va_G} {cA : Nat → ClassId} {q : Nat → Nat} {K : ty_S → Int32 → Prop}  (X : ty_X D cA p s m args meth c cX5_car 3 (some .int) wsX5_car RX5)  (x1 : Int32) (x2 : Int32) (S : ty_S) (H : Heap) (locs : List Loc) (ls : Array Slot) (h : jX5_car_27 K  x1 x2 S) (Y : ty_Y D cA q ty_LM S s H locs) (hl : lv_has ls 3 [(0, .ref (q 0)), (1, .int x1), (2, .int x2)]) : W p l e rX5_car s m args below meth c H locs 0 0 (ty_MI D cA q ty_LM K below args s) (F0 m 27 ls [.ref (q 0)]) := by
  have hx := X.1.1
  have hb := X.1.2.1
  unfold jX5_car_27 at h
  refine lv_iconst (v := (1 : Int32)) hx hb dX5_car_27 (by decide) ?_
  refine lv_goto (tgt := 32) hx hb dX5_car_28 (by decide) ?_
  exact wjX5_car_32 X  _ _ _ _ _ _ _ h Y (lv_sub hl [0, 1, 2] rfl)
def eX5_car (S : ty_S) (x1 : Int32) (x2 : Int32) (K : ty_S → Int32 → Prop) : Prop :=
  (if x1 < (0 : Int32) then jX5_car_27 K  x1 x2 S else (if (S 50 0) ≤ x1 then jX5_car_27 K  x1 x2 S else (if x2 < (0 : Int32) then jX5_car_27 K  x1 x2 S else (vp_in x1 41 ∧ (if x2 < (S 41 x1.toNatClampNeg) then jX5_car_32 K  x1 x2 (0 : Int32) S else jX5_car_27 K  x1 x2 S)))))
set_option maxHeartbeats 4000000 in
set_option maxRecDepth 100000 in
theorem cX5_car_C (l : Launch) (D : va_G) (cA : Nat → ClassId) (q : Nat → Nat) (S : ty_S) (x1 : Int32) (x2 : Int32) (K : ty_S → Int32 → Prop) (h : eX5_car S x1 x2 K) : ∀ sz, Met l yX5_car wsX5_car rX5_car (ty_Pc D cA q ty_LM S sz [.ref (q 0), .int x1, .int x2]) (ty_Qi D cA q ty_LM sz K) 0 0 (ty_A q ty_LM.length sz) := by
  refine ty_ofM (ret := (some .int)) (maxL := 3) (cc := cX5_car) (own := RX5) (Qc := fun sz => ty_Qi D cA q ty_LM sz K) (by decide +kernel) rfl (Nat.le_of_ble_eq_true rfl) rfl ?_
  intro p e s m args below meth c ls X hl Y
  have hx := X.1.1
  have hb := X.1.2.1
  have hl : lv_has ls 3 [(0, .ref (q 0)), (1, .int x1), (2, .int x2)] := hl
  unfold eX5_car at h
  refine lv_aload_n hx hb dX5_car_0 rfl (lv_at hl 0 rfl) ?_
  refine lv_iload_n hx hb dX5_car_1 rfl (lv_at hl 1 rfl) ?_
  refine lv_if_lt (tgt := 27) hx hb dX5_car_2 (by decide) (fun c9 => ?_) (fun c9 => ?_)
  · have h := ty_t h c9
    exact wjX5_car_27 X  _ _ _ _ _ _ h Y (lv_sub hl [0, 1, 2] rfl)
  · have h := ty_f h c9
    refine lv_iload_n hx hb dX5_car_5 rfl (lv_at hl 1 rfl) ?_
    refine lv_aload_n hx hb dX5_car_6 rfl (lv_at hl 0 rfl) ?_
    refine tg_X5_trains (v := (S 50 0)) X Y iX5_car_X5 kX5_car_2 rfl dX5_car_7 ?_
    refine lv_icmp_ge (tgt := 27) hx hb dX5_car_10 (by decide) (fun c9 => ?_) (fun c9 => ?_)
    · have h := ty_t h c9
      exact wjX5_car_27 X  _ _ _ _ _ _ h Y (lv_sub hl [0, 1, 2] rfl)
    · have h := ty_f h c9
      refine lv_iload_n hx hb dX5_car_13 rfl (lv_at hl 2 rfl) ?_
      refine lv_if_lt (tgt := 27) hx hb dX5_car_14 (by decide) (fun c9 => ?_) (fun c9 => ?_)
      · have h := ty_t h c9
        exact wjX5_car_27 X  _ _ _ _ _ _ h Y (lv_sub hl [0, 1, 2] rfl)
      · have h := ty_f h c9
        refine lv_iload_n hx hb dX5_car_17 rfl (lv_at hl 2 rfl) ?_
        refine lv_aload_n hx hb dX5_car_18 rfl (lv_at hl 0 rfl) ?_
        refine tg_X5_trainSize X Y iX5_car_X5 kX5_car_3 dX5_car_19 ?_
        refine lv_iload_n hx hb dX5_car_22 rfl (lv_at hl 1 rfl) ?_
        refine ty_iald (v := (S 41 x1.toNatClampNeg)) X Y 12 41 41 rfl h.1 rfl dX5_car_23 ?_
        have h := h.2
        refine lv_icmp_lt (tgt := 31) hx hb dX5_car_24 (by decide) (fun c9 => ?_) (fun c9 => ?_)
        · have h := ty_t h c9
          refine lv_iconst (v := (0 : Int32)) hx hb dX5_car_31 (by decide) ?_
          exact wjX5_car_32 X  _ _ _ _ _ _ _ h Y (lv_sub hl [0, 1, 2] rfl)
        · have h := ty_f h c9
          exact wjX5_car_27 X  _ _ _ _ _ _ h Y (lv_sub hl [0, 1, 2] rfl)

abbrev rX5_remembers : Room := { frames := 2, cells := 0, slots := 0, locals := 43 }
theorem kX5_remembers_0 : Cond.fieldLink RX5 34 "TrainYardModel" "count" "[I" ∈ wsX5_remembers := ty_m 1 (by decide +kernel)
theorem kX5_remembers_1 : Cond.fieldLink RX5 37 "TrainYardModel" "has" "[I" ∈ wsX5_remembers := ty_m 2 (by decide +kernel)
theorem kX5_remembers_2 : Cond.fieldLink RX5 19 "TrainYardModel" "references" "[I" ∈ wsX5_remembers := ty_m 3 (by decide +kernel)
theorem kX5_remembers_3 : Cond.fieldLink RX5 25 "TrainYardModel" "to" "[I" ∈ wsX5_remembers := ty_m 4 (by decide +kernel)
theorem kX5_remembers_4 : Cond.fieldLink RX5 13 "TrainYardModel" "home" "[I" ∈ wsX5_remembers := ty_m 5 (by decide +kernel)
theorem iX5_remembers_X5 : ∀ w ∈ wsX50, w ∈ wsX5_remembers := ty_inp _ [27, 28, 29, 30, 31, 32, 33, 34, 35, 36, 37, 38, 39, 40, 41, 42, 43, 44, 45, 46, 47, 48, 49, 50, 51, 52, 53, 54, 55, 56, 57] (by decide +kernel)
def lX5_remembers_100 (K : ty_S → Int32 → Prop) (R20 : Int32 → Int32 → Int32 → Int32 → Int32 → ty_S → Prop) (R65 : Int32 → Int32 → Int32 → Int32 → Int32 → Int32 → Int32 → ty_S → Prop) : Nat → Int32 → Int32 → Int32 → Int32 → Int32 → Int32 → Int32 → Int32 → Int32 → ty_S → Prop
  | 0, _, _, _, _, _, _, _, _, _, _ => False
  | n + 1, x1, x2, x3, x4, x5, x6, x7, x8, x9, S => (vp_in x8 640 ∧ (if (S 33 x8.toNatClampNeg) ≤ x9 then R65 x1 x2 x3 x4 x5 x6 (x7 + (1 : Int32)) S else (vp_in (((12 : Int32) * x8) + x9) 7680 ∧ (if (S 35 (((12 : Int32) * x8) + x9).toNatClampNeg) < (0 : Int32) then lX5_remembers_100 K R20 R65 n x1 x2 x3 x4 x5 x6 x7 x8 (x9 + (1 : Int32)) S else (vp_in (S 35 (((12 : Int32) * x8) + x9).toNatClampNeg) 640 ∧ (if (S 31 (S 35 (((12 : Int32) * x8) + x9).toNatClampNeg).toNatClampNeg) = x1 then (if x3 = x2 then (eX5_referencePlace S x8 x9 (fun S3 r3 => K S3 r3)) else lX5_remembers_100 K R20 R65 n x1 x2 (x3 + (1 : Int32)) x4 x5 x6 x7 x8 (x9 + (1 : Int32)) S) else lX5_remembers_100 K R20 R65 n x1 x2 x3 x4 x5 x6 x7 x8 (x9 + (1 : Int32)) S))))))
set_option maxHeartbeats 4000000 in
set_option maxRecDepth 100000 in
theorem wlX5_remembers_100 {p : Program} {l : Launch} {e : Env} {s : State} {m : MethodId} {args : Array Value} {below : List Frame} {meth : Method} {c : Code} {D : va_G} {cA : Nat → ClassId} {q : Nat → Nat} {K : ty_S → Int32 → Prop} {R20 : Int32 → Int32 → Int32 → Int32 → Int32 → ty_S → Prop} {R65 : Int32 → Int32 → Int32 → Int32 → Int32 → Int32 → Int32 → ty_S → Prop} (X : ty_X D cA p s m args meth c cX5_remembers 11 (some .int) wsX5_remembers RX5) (hR20 : ∀ (x1 : Int32) (x2 : Int32) (x3 : Int32) (x4 : Int32) (x5 : Int32) (S : ty_S) (H : Heap) (locs : List Loc) (ls : Array Slot), R20 x1 x2 x3 x4 x5 S → ty_Y D cA q ty_LM S s H locs → lv_has ls 11 [(0, .ref (q 0)), (1, .int x1), (2, .int x2), (3, .int x3), (4, .int x4), (5, .int x5)] → W p l e rX5_remembers s m args below meth c H locs 0 0 (ty_MI D cA q ty_LM K below args s) (F0 m 20 ls [])) (hR65 : ∀ (x1 : Int32) (x2 : Int32) (x3 : Int32) (x4 : Int32) (x5 : Int32) (x6 : Int32) (x7 : Int32) (S : ty_S) (H : Heap) (locs : List Loc) (ls : Array Slot), R65 x1 x2 x3 x4 x5 x6 x7 S → ty_Y D cA q ty_LM S s H locs → lv_has ls 11 [(0, .ref (q 0)), (1, .int x1), (2, .int x2), (3, .int x3), (4, .int x4), (5, .int x5), (6, .int x6), (7, .int x7)] → W p l e rX5_remembers s m args below meth c H locs 0 0 (ty_MI D cA q ty_LM K below args s) (F0 m 65 ls [])) : ∀ (n : Nat) (x1 : Int32) (x2 : Int32) (x3 : Int32) (x4 : Int32) (x5 : Int32) (x6 : Int32) (x7 : Int32) (x8 : Int32) (x9 : Int32) (S : ty_S) (H : Heap) (locs : List Loc) (ls : Array Slot), lX5_remembers_100 K R20 R65 n x1 x2 x3 x4 x5 x6 x7 x8 x9 S → ty_Y D cA q ty_LM S s H locs → lv_has ls 11 [(0, .ref (q 0)), (1, .int x1), (2, .int x2), (3, .int x3), (4, .int x4), (5, .int x5), (6, .int x6), (7, .int x7), (8, .int x8), (9, .int x9)] → W p l e rX5_remembers s m args below meth c H locs 0 0 (ty_MI D cA q ty_LM K below args s) (F0 m 100 ls []) := by
  have hx := X.1.1
  have hb := X.1.2.1
  intro n
  induction n with
  | zero =>
    intro x1 x2 x3 x4 x5 x6 x7 x8 x9 S H locs ls h
    exact False.elim h
  | succ n ih =>
    intro x1 x2 x3 x4 x5 x6 x7 x8 x9 S H locs ls h Y hl
    unfold lX5_remembers_100 at h
    refine lv_iload hx hb dX5_remembers_100 (lv_at hl 9 rfl) ?_
    refine lv_aload_n hx hb dX5_remembers_102 rfl (lv_at hl 0 rfl) ?_
    refine tg_X5_references X Y iX5_remembers_X5 kX5_remembers_2 dX5_remembers_103 ?_
    refine lv_iload hx hb dX5_remembers_106 (lv_at hl 8 rfl) ?_
    refine ty_iald (v := (S 33 x8.toNatClampNeg)) X Y 4 640 33 rfl h.1 rfl dX5_remembers_108 ?_
    have h := h.2
    refine lv_icmp_ge (tgt := 166) hx hb dX5_remembers_109 (by decide) (fun c9 => ?_) (fun c9 => ?_)
    · have h := ty_t h c9
      refine lv_iinc (v := (x7 + (1 : Int32))) (lv' := [(7, .int (x7 + (1 : Int32))), (0, .ref (q 0)), (1, .int x1), (2, .int x2), (3, .int x3), (4, .int x4), (5, .int x5), (6, .int x6), (8, .int x8), (9, .int x9)]) hx hb dX5_remembers_166 hl (k := 7) rfl rfl (by decide) rfl (fun ls hl => ?_)
      refine lv_goto (tgt := 65) hx hb dX5_remembers_169 (by decide) ?_
      exact hR65 _ _ _ _ _ _ _ _ _ _ _ h Y (lv_sub hl [1, 2, 3, 4, 5, 6, 7, 0] rfl)
    · have h := ty_f h c9
      refine lv_aload_n hx hb dX5_remembers_112 rfl (lv_at hl 0 rfl) ?_
      refine tg_X5_to X Y iX5_remembers_X5 kX5_remembers_3 dX5_remembers_113 ?_
      refine lv_bipush (v := (12 : Int32)) hx hb dX5_remembers_116 (by decide) ?_
      refine lv_iload hx hb dX5_remembers_118 (lv_at hl 8 rfl) ?_
      refine lv_imul hx hb dX5_remembers_120 ?_
      refine lv_iload hx hb dX5_remembers_121 (lv_at hl 9 rfl) ?_
      refine lv_iadd hx hb dX5_remembers_123 ?_
      refine ty_iald (v := (S 35 (((12 : Int32) * x8) + x9).toNatClampNeg)) X Y 6 7680 35 rfl h.1 rfl dX5_remembers_124 ?_
      have h := h.2
      refine lv_istore (lv' := [(10, .int (S 35 (((12 : Int32) * x8) + x9).toNatClampNeg)), (0, .ref (q 0)), (1, .int x1), (2, .int x2), (3, .int x3), (4, .int x4), (5, .int x5), (6, .int x6), (7, .int x7), (8, .int x8), (9, .int x9)]) hx hb dX5_remembers_125 hl (by decide) rfl (fun ls hl => ?_)
      refine lv_iload hx hb dX5_remembers_127 (lv_at hl 0 rfl) ?_
      refine lv_if_lt (tgt := 160) hx hb dX5_remembers_129 (by decide) (fun c9 => ?_) (fun c9 => ?_)
      · have h := ty_t h c9
        refine lv_iinc (v := (x9 + (1 : Int32))) (lv' := [(9, .int (x9 + (1 : Int32))), (10, .int (S 35 (((12 : Int32) * x8) + x9).toNatClampNeg)), (0, .ref (q 0)), (1, .int x1), (2, .int x2), (3, .int x3), (4, .int x4), (5, .int x5), (6, .int x6), (7, .int x7), (8, .int x8)]) hx hb dX5_remembers_160 hl (k := 10) rfl rfl (by decide) rfl (fun ls hl => ?_)
        refine lv_goto (tgt := 100) hx hb dX5_remembers_163 (by decide) ?_
        exact ih _ _ _ _ _ _ _ _ _ _ _ _ _ h Y (lv_sub hl [2, 3, 4, 5, 6, 7, 8, 9, 10, 0] rfl)
      · have h := ty_f h c9
        refine lv_aload_n hx hb dX5_remembers_132 rfl (lv_at hl 1 rfl) ?_
        refine tg_X5_home X Y iX5_remembers_X5 kX5_remembers_4 dX5_remembers_133 ?_
        refine lv_iload hx hb dX5_remembers_136 (lv_at hl 0 rfl) ?_
        refine ty_iald (v := (S 31 (S 35 (((12 : Int32) * x8) + x9).toNatClampNeg).toNatClampNeg)) X Y 2 640 31 rfl h.1 rfl dX5_remembers_138 ?_
        have h := h.2
        refine lv_iload_n hx hb dX5_remembers_139 rfl (lv_at hl 2 rfl) ?_
        refine lv_icmp_ne (tgt := 160) hx hb dX5_remembers_140 (by decide) (fun c9 => ?_) (fun c9 => ?_)
        · have h := ty_f h c9
          refine lv_iinc (v := (x9 + (1 : Int32))) (lv' := [(9, .int (x9 + (1 : Int32))), (10, .int (S 35 (((12 : Int32) * x8) + x9).toNatClampNeg)), (0, .ref (q 0)), (1, .int x1), (2, .int x2), (3, .int x3), (4, .int x4), (5, .int x5), (6, .int x6), (7, .int x7), (8, .int x8)]) hx hb dX5_remembers_160 hl (k := 10) rfl rfl (by decide) rfl (fun ls hl => ?_)
          refine lv_goto (tgt := 100) hx hb dX5_remembers_163 (by decide) ?_
          exact ih _ _ _ _ _ _ _ _ _ _ _ _ _ h Y (lv_sub hl [2, 3, 4, 5, 6, 7, 8, 9, 10, 0] rfl)
        · have h := ty_t h c9
          refine lv_iload_n hx hb dX5_remembers_143 rfl (lv_at hl 4 rfl) ?_
          refine lv_iload_n hx hb dX5_remembers_144 rfl (lv_at hl 3 rfl) ?_
          refine lv_icmp_ne (tgt := 157) hx hb dX5_remembers_145 (by decide) (fun c9 => ?_) (fun c9 => ?_)
          · have h := ty_f h c9
            refine lv_iinc (v := (x3 + (1 : Int32))) (lv' := [(3, .int (x3 + (1 : Int32))), (10, .int (S 35 (((12 : Int32) * x8) + x9).toNatClampNeg)), (0, .ref (q 0)), (1, .int x1), (2, .int x2), (4, .int x4), (5, .int x5), (6, .int x6), (7, .int x7), (8, .int x8), (9, .int x9)]) hx hb dX5_remembers_157 hl (k := 4) rfl rfl (by decide) rfl (fun ls hl => ?_)
            refine lv_iinc (v := (x9 + (1 : Int32))) (lv' := [(9, .int (x9 + (1 : Int32))), (3, .int (x3 + (1 : Int32))), (10, .int (S 35 (((12 : Int32) * x8) + x9).toNatClampNeg)), (0, .ref (q 0)), (1, .int x1), (2, .int x2), (4, .int x4), (5, .int x5), (6, .int x6), (7, .int x7), (8, .int x8)]) hx hb dX5_remembers_160 hl (k := 10) rfl rfl (by decide) rfl (fun ls hl => ?_)
            refine lv_goto (tgt := 100) hx hb dX5_remembers_163 (by decide) ?_
            exact ih _ _ _ _ _ _ _ _ _ _ _ _ _ h Y (lv_sub hl [3, 4, 5, 1, 6, 7, 8, 9, 10, 0] rfl)
          · have h := ty_t h c9
            refine lv_aload_n hx hb dX5_remembers_148 rfl (lv_at hl 1 rfl) ?_
            refine lv_iload hx hb dX5_remembers_149 (lv_at hl 9 rfl) ?_
            refine lv_iload hx hb dX5_remembers_151 (lv_at hl 10 rfl) ?_
            refine ty_Vi (As := [.int x8, .int x9]) (b := 0) (rest := []) X Y (cX5_referencePlace_C l D cA q S x8 x9 _ h) rfl rfl (fun hts => cwV 2 hts gX5_remembers_X5_referencePlace rfl rfl rfl (by decide +kernel) ⟨Nat.le_of_ble_eq_true rfl, Nat.le_of_ble_eq_true rfl⟩) rfl hl.1 (Nat.le_of_ble_eq_true rfl) dX5_remembers_153 ⟨Nat.zero_le _, Nat.zero_le _⟩ (fun r3 S3 H locs h Y => ?_)
            exact ty_iret X Y h dX5_remembers_156
def lX5_remembers_65 (K : ty_S → Int32 → Prop) (R20 : Int32 → Int32 → Int32 → Int32 → Int32 → ty_S → Prop) : Nat → Int32 → Int32 → Int32 → Int32 → Int32 → Int32 → Int32 → ty_S → Prop
  | 0, _, _, _, _, _, _, _, _ => False
  | n + 1, x1, x2, x3, x4, x5, x6, x7, S => (if x6 = (0 : Int32) then R20 x1 x2 x3 x4 (x5 + (1 : Int32)) S else (vp_in x5 40 ∧ (if (S 38 x5.toNatClampNeg) ≤ x7 then R20 x1 x2 x3 x4 (x5 + (1 : Int32)) S else (vp_in (((16 : Int32) * x5) + x7) 640 ∧ ∃ n9, lX5_remembers_100 K R20 (fun a0 a1 a2 a3 a4 a5 a6 S9 => lX5_remembers_65 K R20 n a0 a1 a2 a3 a4 a5 a6 S9) n9 x1 x2 x3 x4 x5 x6 x7 (S 39 (((16 : Int32) * x5) + x7).toNatClampNeg) (0 : Int32) S))))
set_option maxHeartbeats 4000000 in
set_option maxRecDepth 100000 in
theorem wlX5_remembers_65 {p : Program} {l : Launch} {e : Env} {s : State} {m : MethodId} {args : Array Value} {below : List Frame} {meth : Method} {c : Code} {D : va_G} {cA : Nat → ClassId} {q : Nat → Nat} {K : ty_S → Int32 → Prop} {R20 : Int32 → Int32 → Int32 → Int32 → Int32 → ty_S → Prop} (X : ty_X D cA p s m args meth c cX5_remembers 11 (some .int) wsX5_remembers RX5) (hR20 : ∀ (x1 : Int32) (x2 : Int32) (x3 : Int32) (x4 : Int32) (x5 : Int32) (S : ty_S) (H : Heap) (locs : List Loc) (ls : Array Slot), R20 x1 x2 x3 x4 x5 S → ty_Y D cA q ty_LM S s H locs → lv_has ls 11 [(0, .ref (q 0)), (1, .int x1), (2, .int x2), (3, .int x3), (4, .int x4), (5, .int x5)] → W p l e rX5_remembers s m args below meth c H locs 0 0 (ty_MI D cA q ty_LM K below args s) (F0 m 20 ls [])) : ∀ (n : Nat) (x1 : Int32) (x2 : Int32) (x3 : Int32) (x4 : Int32) (x5 : Int32) (x6 : Int32) (x7 : Int32) (S : ty_S) (H : Heap) (locs : List Loc) (ls : Array Slot), lX5_remembers_65 K R20 n x1 x2 x3 x4 x5 x6 x7 S → ty_Y D cA q ty_LM S s H locs → lv_has ls 11 [(0, .ref (q 0)), (1, .int x1), (2, .int x2), (3, .int x3), (4, .int x4), (5, .int x5), (6, .int x6), (7, .int x7)] → W p l e rX5_remembers s m args below meth c H locs 0 0 (ty_MI D cA q ty_LM K below args s) (F0 m 65 ls []) := by
  have hx := X.1.1
  have hb := X.1.2.1
  intro n
  induction n with
  | zero =>
    intro x1 x2 x3 x4 x5 x6 x7 S H locs ls h
    exact False.elim h
  | succ n ih =>
    intro x1 x2 x3 x4 x5 x6 x7 S H locs ls h Y hl
    unfold lX5_remembers_65 at h
    refine lv_iload hx hb dX5_remembers_65 (lv_at hl 6 rfl) ?_
    refine lv_if_eq (tgt := 172) hx hb dX5_remembers_67 (by decide) (fun c9 => ?_) (fun c9 => ?_)
    · have h := ty_t h c9
      refine lv_iinc (v := (x5 + (1 : Int32))) (lv' := [(5, .int (x5 + (1 : Int32))), (0, .ref (q 0)), (1, .int x1), (2, .int x2), (3, .int x3), (4, .int x4), (6, .int x6), (7, .int x7)]) hx hb dX5_remembers_172 hl (k := 5) rfl rfl (by decide) rfl (fun ls hl => ?_)
      refine lv_goto (tgt := 20) hx hb dX5_remembers_175 (by decide) ?_
      exact hR20 _ _ _ _ _ _ _ _ _ h Y (lv_sub hl [1, 2, 3, 4, 5, 0] rfl)
    · have h := ty_f h c9
      refine lv_iload hx hb dX5_remembers_70 (lv_at hl 7 rfl) ?_
      refine lv_aload_n hx hb dX5_remembers_72 rfl (lv_at hl 0 rfl) ?_
      refine tg_X5_count X Y iX5_remembers_X5 kX5_remembers_0 dX5_remembers_73 ?_
      refine lv_iload hx hb dX5_remembers_76 (lv_at hl 5 rfl) ?_
      refine ty_iald (v := (S 38 x5.toNatClampNeg)) X Y 9 40 38 rfl h.1 rfl dX5_remembers_78 ?_
      have h := h.2
      refine lv_icmp_ge (tgt := 172) hx hb dX5_remembers_79 (by decide) (fun c9 => ?_) (fun c9 => ?_)
      · have h := ty_t h c9
        refine lv_iinc (v := (x5 + (1 : Int32))) (lv' := [(5, .int (x5 + (1 : Int32))), (0, .ref (q 0)), (1, .int x1), (2, .int x2), (3, .int x3), (4, .int x4), (6, .int x6), (7, .int x7)]) hx hb dX5_remembers_172 hl (k := 5) rfl rfl (by decide) rfl (fun ls hl => ?_)
        refine lv_goto (tgt := 20) hx hb dX5_remembers_175 (by decide) ?_
        exact hR20 _ _ _ _ _ _ _ _ _ h Y (lv_sub hl [1, 2, 3, 4, 5, 0] rfl)
      · have h := ty_f h c9
        refine lv_aload_n hx hb dX5_remembers_82 rfl (lv_at hl 0 rfl) ?_
        refine tg_X5_has X Y iX5_remembers_X5 kX5_remembers_1 dX5_remembers_83 ?_
        refine lv_bipush (v := (16 : Int32)) hx hb dX5_remembers_86 (by decide) ?_
        refine lv_iload hx hb dX5_remembers_88 (lv_at hl 5 rfl) ?_
        refine lv_imul hx hb dX5_remembers_90 ?_
        refine lv_iload hx hb dX5_remembers_91 (lv_at hl 7 rfl) ?_
        refine lv_iadd hx hb dX5_remembers_93 ?_
        refine ty_iald (v := (S 39 (((16 : Int32) * x5) + x7).toNatClampNeg)) X Y 10 640 39 rfl h.1 rfl dX5_remembers_94 ?_
        have h := h.2
        refine lv_istore (lv' := [(8, .int (S 39 (((16 : Int32) * x5) + x7).toNatClampNeg)), (0, .ref (q 0)), (1, .int x1), (2, .int x2), (3, .int x3), (4, .int x4), (5, .int x5), (6, .int x6), (7, .int x7)]) hx hb dX5_remembers_95 hl (by decide) rfl (fun ls hl => ?_)
        refine lv_iconst (v := (0 : Int32)) hx hb dX5_remembers_97 (by decide) ?_
        refine lv_istore (lv' := [(9, .int (0 : Int32)), (8, .int (S 39 (((16 : Int32) * x5) + x7).toNatClampNeg)), (0, .ref (q 0)), (1, .int x1), (2, .int x2), (3, .int x3), (4, .int x4), (5, .int x5), (6, .int x6), (7, .int x7)]) hx hb dX5_remembers_98 hl (by decide) rfl (fun ls hl => ?_)
        obtain ⟨n9, h⟩ := h
        exact wlX5_remembers_100 X hR20 ih n9 _ _ _ _ _ _ _ _ _ _ _ _ _ h Y (lv_sub hl [2, 3, 4, 5, 6, 7, 8, 9, 1, 0] rfl)
def lX5_remembers_20 (K : ty_S → Int32 → Prop)  : Nat → Int32 → Int32 → Int32 → Int32 → Int32 → ty_S → Prop
  | 0, _, _, _, _, _, _ => False
  | n + 1, x1, x2, x3, x4, x5, S => (if (40 : Int32) ≤ x5 then K S ((-1 : Int32) - x3) else (if x4 = (0 : Int32) then K S ((-1 : Int32) - x3) else (eX5_trainOf S x5 (fun S2 r2 => (if r2 < (0 : Int32) then ∃ n9, lX5_remembers_65 K (fun a0 a1 a2 a3 a4 S9 => lX5_remembers_20 K  n a0 a1 a2 a3 a4 S9) n9 x1 x2 x3 x4 x5 (0 : Int32) (0 : Int32) S2 else (eX5_rank S2 x5 (fun S4 r4 => (eX5_rank S4 x1 (fun S5 r5 => (if r4 ≤ r5 then ∃ n9, lX5_remembers_65 K (fun a0 a1 a2 a3 a4 S9 => lX5_remembers_20 K  n a0 a1 a2 a3 a4 S9) n9 x1 x2 x3 x4 x5 (0 : Int32) (0 : Int32) S5 else ∃ n9, lX5_remembers_65 K (fun a0 a1 a2 a3 a4 S9 => lX5_remembers_20 K  n a0 a1 a2 a3 a4 S9) n9 x1 x2 x3 x4 x5 (1 : Int32) (0 : Int32) S5))))))))))
set_option maxHeartbeats 4000000 in
set_option maxRecDepth 100000 in
theorem wlX5_remembers_20 {p : Program} {l : Launch} {e : Env} {s : State} {m : MethodId} {args : Array Value} {below : List Frame} {meth : Method} {c : Code} {D : va_G} {cA : Nat → ClassId} {q : Nat → Nat} {K : ty_S → Int32 → Prop}  (X : ty_X D cA p s m args meth c cX5_remembers 11 (some .int) wsX5_remembers RX5)  : ∀ (n : Nat) (x1 : Int32) (x2 : Int32) (x3 : Int32) (x4 : Int32) (x5 : Int32) (S : ty_S) (H : Heap) (locs : List Loc) (ls : Array Slot), lX5_remembers_20 K  n x1 x2 x3 x4 x5 S → ty_Y D cA q ty_LM S s H locs → lv_has ls 11 [(0, .ref (q 0)), (1, .int x1), (2, .int x2), (3, .int x3), (4, .int x4), (5, .int x5)] → W p l e rX5_remembers s m args below meth c H locs 0 0 (ty_MI D cA q ty_LM K below args s) (F0 m 20 ls []) := by
  have hx := X.1.1
  have hb := X.1.2.1
  intro n
  induction n with
  | zero =>
    intro x1 x2 x3 x4 x5 S H locs ls h
    exact False.elim h
  | succ n ih =>
    intro x1 x2 x3 x4 x5 S H locs ls h Y hl
    unfold lX5_remembers_20 at h
    refine lv_iload hx hb dX5_remembers_20 (lv_at hl 5 rfl) ?_
    refine lv_bipush (v := (40 : Int32)) hx hb dX5_remembers_22 (by decide) ?_
    refine lv_icmp_ge (tgt := 178) hx hb dX5_remembers_24 (by decide) (fun c9 => ?_) (fun c9 => ?_)
    · have h := ty_t h c9
      refine lv_iconst (v := (-1 : Int32)) hx hb dX5_remembers_178 (by decide) ?_
      refine lv_iload_n hx hb dX5_remembers_179 rfl (lv_at hl 3 rfl) ?_
      refine lv_isub hx hb dX5_remembers_180 ?_
      exact ty_iret X Y h dX5_remembers_181
    · have h := ty_f h c9
      refine lv_iload hx hb dX5_remembers_27 (lv_at hl 4 rfl) ?_
      refine lv_if_eq (tgt := 178) hx hb dX5_remembers_29 (by decide) (fun c9 => ?_) (fun c9 => ?_)
      · have h := ty_t h c9
        refine lv_iconst (v := (-1 : Int32)) hx hb dX5_remembers_178 (by decide) ?_
        refine lv_iload_n hx hb dX5_remembers_179 rfl (lv_at hl 3 rfl) ?_
        refine lv_isub hx hb dX5_remembers_180 ?_
        exact ty_iret X Y h dX5_remembers_181
      · have h := ty_f h c9
        refine lv_aload_n hx hb dX5_remembers_32 rfl (lv_at hl 0 rfl) ?_
        refine lv_iload hx hb dX5_remembers_33 (lv_at hl 5 rfl) ?_
        refine ty_Vi (As := [.int x5]) (b := 0) (rest := []) X Y (cX5_trainOf_C l D cA q S x5 _ h) rfl rfl (fun hts => cwV 1 hts gX5_remembers_X5_trainOf rfl rfl rfl (by decide +kernel) ⟨Nat.le_of_ble_eq_true rfl, Nat.le_of_ble_eq_true rfl⟩) rfl hl.1 (Nat.le_of_ble_eq_true rfl) dX5_remembers_35 ⟨Nat.zero_le _, Nat.zero_le _⟩ (fun r2 S2 H locs h Y => ?_)
        refine lv_if_lt (tgt := 59) hx hb dX5_remembers_38 (by decide) (fun c9 => ?_) (fun c9 => ?_)
        · have h := ty_t h c9
          refine lv_iconst (v := (0 : Int32)) hx hb dX5_remembers_59 (by decide) ?_
          refine lv_istore (lv' := [(6, .int (0 : Int32)), (0, .ref (q 0)), (1, .int x1), (2, .int x2), (3, .int x3), (4, .int x4), (5, .int x5)]) hx hb dX5_remembers_60 hl (by decide) rfl (fun ls hl => ?_)
          refine lv_iconst (v := (0 : Int32)) hx hb dX5_remembers_62 (by decide) ?_
          refine lv_istore (lv' := [(7, .int (0 : Int32)), (6, .int (0 : Int32)), (0, .ref (q 0)), (1, .int x1), (2, .int x2), (3, .int x3), (4, .int x4), (5, .int x5)]) hx hb dX5_remembers_63 hl (by decide) rfl (fun ls hl => ?_)
          obtain ⟨n9, h⟩ := h
          exact wlX5_remembers_65 X ih n9 _ _ _ _ _ _ _ _ _ _ _ h Y (lv_sub hl [2, 3, 4, 5, 6, 7, 1, 0] rfl)
        · have h := ty_f h c9
          refine lv_aload_n hx hb dX5_remembers_41 rfl (lv_at hl 0 rfl) ?_
          refine lv_iload hx hb dX5_remembers_42 (lv_at hl 5 rfl) ?_
          refine ty_Vi (As := [.int x5]) (b := 0) (rest := []) X Y (cX5_rank_C l D cA q S2 x5 _ h) rfl rfl (fun hts => cwV 1 hts gX5_remembers_X5_rank rfl rfl rfl (by decide +kernel) ⟨Nat.le_of_ble_eq_true rfl, Nat.le_of_ble_eq_true rfl⟩) rfl hl.1 (Nat.le_of_ble_eq_true rfl) dX5_remembers_44 ⟨Nat.zero_le _, Nat.zero_le _⟩ (fun r4 S4 H locs h Y => ?_)
          refine lv_aload_n hx hb dX5_remembers_47 rfl (lv_at hl 0 rfl) ?_
          refine lv_iload_n hx hb dX5_remembers_48 rfl (lv_at hl 1 rfl) ?_
          refine ty_Vi (As := [.int x1]) (b := 0) (rest := [.int r4]) X Y (cX5_rank_C l D cA q S4 x1 _ h) rfl rfl (fun hts => cwV 1 hts gX5_remembers_X5_rank rfl rfl rfl (by decide +kernel) ⟨Nat.le_of_ble_eq_true rfl, Nat.le_of_ble_eq_true rfl⟩) rfl hl.1 (Nat.le_of_ble_eq_true rfl) dX5_remembers_49 ⟨Nat.zero_le _, Nat.zero_le _⟩ (fun r5 S5 H locs h Y => ?_)
          refine lv_icmp_le (tgt := 59) hx hb dX5_remembers_52 (by decide) (fun c9 => ?_) (fun c9 => ?_)
          · have h := ty_t h c9
            refine lv_iconst (v := (0 : Int32)) hx hb dX5_remembers_59 (by decide) ?_
            refine lv_istore (lv' := [(6, .int (0 : Int32)), (0, .ref (q 0)), (1, .int x1), (2, .int x2), (3, .int x3), (4, .int x4), (5, .int x5)]) hx hb dX5_remembers_60 hl (by decide) rfl (fun ls hl => ?_)
            refine lv_iconst (v := (0 : Int32)) hx hb dX5_remembers_62 (by decide) ?_
            refine lv_istore (lv' := [(7, .int (0 : Int32)), (6, .int (0 : Int32)), (0, .ref (q 0)), (1, .int x1), (2, .int x2), (3, .int x3), (4, .int x4), (5, .int x5)]) hx hb dX5_remembers_63 hl (by decide) rfl (fun ls hl => ?_)
            obtain ⟨n9, h⟩ := h
            exact wlX5_remembers_65 X ih n9 _ _ _ _ _ _ _ _ _ _ _ h Y (lv_sub hl [2, 3, 4, 5, 6, 7, 1, 0] rfl)
          · have h := ty_f h c9
            refine lv_iconst (v := (1 : Int32)) hx hb dX5_remembers_55 (by decide) ?_
            refine lv_goto (tgt := 60) hx hb dX5_remembers_56 (by decide) ?_
            refine lv_istore (lv' := [(6, .int (1 : Int32)), (0, .ref (q 0)), (1, .int x1), (2, .int x2), (3, .int x3), (4, .int x4), (5, .int x5)]) hx hb dX5_remembers_60 hl (by decide) rfl (fun ls hl => ?_)
            refine lv_iconst (v := (0 : Int32)) hx hb dX5_remembers_62 (by decide) ?_
            refine lv_istore (lv' := [(7, .int (0 : Int32)), (6, .int (1 : Int32)), (0, .ref (q 0)), (1, .int x1), (2, .int x2), (3, .int x3), (4, .int x4), (5, .int x5)]) hx hb dX5_remembers_63 hl (by decide) rfl (fun ls hl => ?_)
            obtain ⟨n9, h⟩ := h
            exact wlX5_remembers_65 X ih n9 _ _ _ _ _ _ _ _ _ _ _ h Y (lv_sub hl [2, 3, 4, 5, 6, 7, 1, 0] rfl)
def eX5_remembers (S : ty_S) (x1 : Int32) (x2 : Int32) (K : ty_S → Int32 → Prop) : Prop :=
  (eX5_trainOf S x1 (fun S1 r1 => (if r1 < (0 : Int32) then ∃ n9, lX5_remembers_20 K  n9 x1 x2 (0 : Int32) (0 : Int32) (0 : Int32) S1 else ∃ n9, lX5_remembers_20 K  n9 x1 x2 (0 : Int32) (1 : Int32) (0 : Int32) S1)))
set_option maxHeartbeats 4000000 in
set_option maxRecDepth 100000 in
theorem cX5_remembers_C (l : Launch) (D : va_G) (cA : Nat → ClassId) (q : Nat → Nat) (S : ty_S) (x1 : Int32) (x2 : Int32) (K : ty_S → Int32 → Prop) (h : eX5_remembers S x1 x2 K) : ∀ sz, Met l yX5_remembers wsX5_remembers rX5_remembers (ty_Pc D cA q ty_LM S sz [.ref (q 0), .int x1, .int x2]) (ty_Qi D cA q ty_LM sz K) 0 0 (ty_A q ty_LM.length sz) := by
  refine ty_ofM (ret := (some .int)) (maxL := 11) (cc := cX5_remembers) (own := RX5) (Qc := fun sz => ty_Qi D cA q ty_LM sz K) (by decide +kernel) rfl (Nat.le_of_ble_eq_true rfl) rfl ?_
  intro p e s m args below meth c ls X hl Y
  have hx := X.1.1
  have hb := X.1.2.1
  have hl : lv_has ls 11 [(0, .ref (q 0)), (1, .int x1), (2, .int x2)] := hl
  unfold eX5_remembers at h
  refine lv_iconst (v := (0 : Int32)) hx hb dX5_remembers_0 (by decide) ?_
  refine lv_istore_n (lv' := [(3, .int (0 : Int32)), (0, .ref (q 0)), (1, .int x1), (2, .int x2)]) hx hb dX5_remembers_1 rfl hl (by decide) rfl (fun ls hl => ?_)
  refine lv_aload_n hx hb dX5_remembers_2 rfl (lv_at hl 1 rfl) ?_
  refine lv_iload_n hx hb dX5_remembers_3 rfl (lv_at hl 2 rfl) ?_
  refine ty_Vi (As := [.int x1]) (b := 0) (rest := []) X Y (cX5_trainOf_C l D cA q S x1 _ h) rfl rfl (fun hts => cwV 1 hts gX5_remembers_X5_trainOf rfl rfl rfl (by decide +kernel) ⟨Nat.le_of_ble_eq_true rfl, Nat.le_of_ble_eq_true rfl⟩) rfl hl.1 (Nat.le_of_ble_eq_true rfl) dX5_remembers_4 ⟨Nat.zero_le _, Nat.zero_le _⟩ (fun r1 S1 H locs h Y => ?_)
  refine lv_if_lt (tgt := 14) hx hb dX5_remembers_7 (by decide) (fun c9 => ?_) (fun c9 => ?_)
  · have h := ty_t h c9
    refine lv_iconst (v := (0 : Int32)) hx hb dX5_remembers_14 (by decide) ?_
    refine lv_istore (lv' := [(4, .int (0 : Int32)), (3, .int (0 : Int32)), (0, .ref (q 0)), (1, .int x1), (2, .int x2)]) hx hb dX5_remembers_15 hl (by decide) rfl (fun ls hl => ?_)
    refine lv_iconst (v := (0 : Int32)) hx hb dX5_remembers_17 (by decide) ?_
    refine lv_istore (lv' := [(5, .int (0 : Int32)), (4, .int (0 : Int32)), (3, .int (0 : Int32)), (0, .ref (q 0)), (1, .int x1), (2, .int x2)]) hx hb dX5_remembers_18 hl (by decide) rfl (fun ls hl => ?_)
    obtain ⟨n9, h⟩ := h
    exact wlX5_remembers_20 X  n9 _ _ _ _ _ _ _ _ _ h Y (lv_sub hl [3, 4, 5, 2, 1, 0] rfl)
  · have h := ty_f h c9
    refine lv_iconst (v := (1 : Int32)) hx hb dX5_remembers_10 (by decide) ?_
    refine lv_goto (tgt := 15) hx hb dX5_remembers_11 (by decide) ?_
    refine lv_istore (lv' := [(4, .int (1 : Int32)), (3, .int (0 : Int32)), (0, .ref (q 0)), (1, .int x1), (2, .int x2)]) hx hb dX5_remembers_15 hl (by decide) rfl (fun ls hl => ?_)
    refine lv_iconst (v := (0 : Int32)) hx hb dX5_remembers_17 (by decide) ?_
    refine lv_istore (lv' := [(5, .int (0 : Int32)), (4, .int (1 : Int32)), (3, .int (0 : Int32)), (0, .ref (q 0)), (1, .int x1), (2, .int x2)]) hx hb dX5_remembers_18 hl (by decide) rfl (fun ls hl => ?_)
    obtain ⟨n9, h⟩ := h
    exact wlX5_remembers_20 X  n9 _ _ _ _ _ _ _ _ _ h Y (lv_sub hl [3, 4, 5, 2, 1, 0] rfl)

abbrev rX5_about : Room := { frames := 3, cells := 0, slots := 0, locals := 73 }
theorem kX5_about_0 : Cond.fieldLink RX5 75 "TrainYardModel" "thrown" "I" ∈ wsX5_about := ty_m 1 (by decide +kernel)
theorem kX5_about_1 : Cond.fieldLink RX5 40 "TrainYardModel" "trainNumber" "[I" ∈ wsX5_about := ty_m 2 (by decide +kernel)
theorem kX5_about_2 : Cond.fieldLink RX5 31 "TrainYardModel" "used" "[I" ∈ wsX5_about := ty_m 3 (by decide +kernel)
theorem kX5_about_3 : Cond.fieldLink RX5 34 "TrainYardModel" "count" "[I" ∈ wsX5_about := ty_m 4 (by decide +kernel)
theorem kX5_about_4 : Cond.fieldLink RX5 7 "TrainYardModel" "label" "[I" ∈ wsX5_about := ty_m 5 (by decide +kernel)
theorem kX5_about_5 : Cond.fieldLink RX5 37 "TrainYardModel" "has" "[I" ∈ wsX5_about := ty_m 6 (by decide +kernel)
theorem iX5_about_X5 : ∀ w ∈ wsX50, w ∈ wsX5_about := ty_inp _ [35, 36, 37, 38, 39, 40, 41, 42, 43, 44, 45, 46, 47, 48, 49, 50, 51, 52, 53, 54, 55, 56, 57, 58, 59, 60, 61, 62, 63, 64, 65] (by decide +kernel)
def jX5_about_25 (K : ty_S → Int32 → Prop)  (x1 : Int32) (x2 : Int32) (t0 : Int32) (S : ty_S) : Prop :=
  (if t0 ≤ (0 : Int32) then (eX5_trainOf (ty_st S 60 0 t0) x1 (fun S1 r1 => (if x2 = (0 : Int32) then (if (0 : Int32) ≤ r1 then (vp_in r1 41 ∧ K S1 (S1 40 r1.toNatClampNeg)) else K S1 (0 : Int32)) else (if x2 = (1 : Int32) then (vp_in x1 40 ∧ K S1 ((32 : Int32) - (S1 37 x1.toNatClampNeg))) else (if x2 = (2 : Int32) then (vp_in x1 40 ∧ K S1 (S1 38 x1.toNatClampNeg)) else (if x2 = (3 : Int32) then (eX5_remembers S1 x1 (-1 : Int32) (fun S2 r2 => K S2 ((-1 : Int32) - r2))) else (vp_in x1 40 ∧ (if (S1 38 x1.toNatClampNeg) = (0 : Int32) then K S1 (0 : Int32) else (vp_in x1 40 ∧ (vp_in ((((16 : Int32) * x1) + (S1 38 x1.toNatClampNeg)) - (1 : Int32)) 640 ∧ (vp_in (S1 39 ((((16 : Int32) * x1) + (S1 38 x1.toNatClampNeg)) - (1 : Int32)).toNatClampNeg) 640 ∧ K S1 (S1 30 (S1 39 ((((16 : Int32) * x1) + (S1 38 x1.toNatClampNeg)) - (1 : Int32)).toNatClampNeg).toNatClampNeg)))))))))))) else K (ty_st S 60 0 t0) (0 : Int32))
set_option maxHeartbeats 4000000 in
set_option maxRecDepth 100000 in
theorem wjX5_about_25 {p : Program} {l : Launch} {e : Env} {s : State} {m : MethodId} {args : Array Value} {below : List Frame} {meth : Method} {c : Code} {D : va_G} {cA : Nat → ClassId} {q : Nat → Nat} {K : ty_S → Int32 → Prop}  (X : ty_X D cA p s m args meth c cX5_about 4 (some .int) wsX5_about RX5)  (x1 : Int32) (x2 : Int32) (t0 : Int32) (S : ty_S) (H : Heap) (locs : List Loc) (ls : Array Slot) (h : jX5_about_25 K  x1 x2 t0 S) (Y : ty_Y D cA q ty_LM S s H locs) (hl : lv_has ls 4 [(0, .ref (q 0)), (1, .int x1), (2, .int x2)]) : W p l e rX5_about s m args below meth c H locs 0 0 (ty_MI D cA q ty_LM K below args s) (F0 m 25 ls [.int t0, .ref (q 0)]) := by
  have hx := X.1.1
  have hb := X.1.2.1
  unfold jX5_about_25 at h
  refine tp_X5_thrown X Y iX5_about_X5 kX5_about_0 dX5_about_25 (fun H locs Y => ?_)
  refine lv_aload_n hx hb dX5_about_28 rfl (lv_at hl 0 rfl) ?_
  refine tg_X5_thrown (v := t0) X Y iX5_about_X5 kX5_about_0 rfl dX5_about_29 ?_
  refine lv_if_le (tgt := 37) hx hb dX5_about_32 (by decide) (fun c9 => ?_) (fun c9 => ?_)
  · have h := ty_t h c9
    refine lv_aload_n hx hb dX5_about_37 rfl (lv_at hl 0 rfl) ?_
    refine lv_iload_n hx hb dX5_about_38 rfl (lv_at hl 1 rfl) ?_
    refine ty_Vi (As := [.int x1]) (b := 0) (rest := []) X Y (cX5_trainOf_C l D cA q (ty_st S 60 0 t0) x1 _ h) rfl rfl (fun hts => cwV 1 hts gX5_about_X5_trainOf rfl rfl rfl (by decide +kernel) ⟨Nat.le_of_ble_eq_true rfl, Nat.le_of_ble_eq_true rfl⟩) rfl hl.1 (Nat.le_of_ble_eq_true rfl) dX5_about_39 ⟨Nat.zero_le _, Nat.zero_le _⟩ (fun r1 S1 H locs h Y => ?_)
    refine lv_istore_n (lv' := [(3, .int r1), (0, .ref (q 0)), (1, .int x1), (2, .int x2)]) hx hb dX5_about_42 rfl hl (by decide) rfl (fun ls hl => ?_)
    refine lv_iload_n hx hb dX5_about_43 rfl (lv_at hl 3 rfl) ?_
    rcases Decidable.em (x2 = (0 : Int32)) with c0 | c0
    · have h := ty_t h c0
      refine lv_tableIn (tgt := 76) hx hb dX5_about_44 (by rw [c0]; decide) (by rw [c0]; decide) (by rw [c0]; exact rfl) (by decide) ?_
      refine lv_iload_n hx hb dX5_about_76 rfl (lv_at hl 0 rfl) ?_
      refine lv_if_ge (tgt := 84) hx hb dX5_about_77 (by decide) (fun c9 => ?_) (fun c9 => ?_)
      · have h := ty_t h c9
        refine lv_aload_n hx hb dX5_about_84 rfl (lv_at hl 1 rfl) ?_
        refine tg_X5_trainNumber X Y iX5_about_X5 kX5_about_1 dX5_about_85 ?_
        refine lv_iload_n hx hb dX5_about_88 rfl (lv_at hl 0 rfl) ?_
        refine ty_iald (v := (S1 40 r1.toNatClampNeg)) X Y 11 41 40 rfl h.1 rfl dX5_about_89 ?_
        have h := h.2
        exact ty_iret X Y h dX5_about_90
      · have h := ty_f h c9
        refine lv_iconst (v := (0 : Int32)) hx hb dX5_about_80 (by decide) ?_
        refine lv_goto (tgt := 90) hx hb dX5_about_81 (by decide) ?_
        exact ty_iret X Y h dX5_about_90
    · have h := ty_f h c0
      rcases Decidable.em (x2 = (1 : Int32)) with c1 | c1
      · have h := ty_t h c1
        refine lv_tableIn (tgt := 91) hx hb dX5_about_44 (by rw [c1]; decide) (by rw [c1]; decide) (by rw [c1]; exact rfl) (by decide) ?_
        refine lv_bipush (v := (32 : Int32)) hx hb dX5_about_91 (by decide) ?_
        refine lv_aload_n hx hb dX5_about_93 rfl (lv_at hl 1 rfl) ?_
        refine tg_X5_used X Y iX5_about_X5 kX5_about_2 dX5_about_94 ?_
        refine lv_iload_n hx hb dX5_about_97 rfl (lv_at hl 2 rfl) ?_
        refine ty_iald (v := (S1 37 x1.toNatClampNeg)) X Y 8 40 37 rfl h.1 rfl dX5_about_98 ?_
        have h := h.2
        refine lv_isub hx hb dX5_about_99 ?_
        exact ty_iret X Y h dX5_about_100
      · have h := ty_f h c1
        rcases Decidable.em (x2 = (2 : Int32)) with c2 | c2
        · have h := ty_t h c2
          refine lv_tableIn (tgt := 101) hx hb dX5_about_44 (by rw [c2]; decide) (by rw [c2]; decide) (by rw [c2]; exact rfl) (by decide) ?_
          refine lv_aload_n hx hb dX5_about_101 rfl (lv_at hl 1 rfl) ?_
          refine tg_X5_count X Y iX5_about_X5 kX5_about_3 dX5_about_102 ?_
          refine lv_iload_n hx hb dX5_about_105 rfl (lv_at hl 2 rfl) ?_
          refine ty_iald (v := (S1 38 x1.toNatClampNeg)) X Y 9 40 38 rfl h.1 rfl dX5_about_106 ?_
          have h := h.2
          exact ty_iret X Y h dX5_about_107
        · have h := ty_f h c2
          rcases Decidable.em (x2 = (3 : Int32)) with c3 | c3
          · have h := ty_t h c3
            refine lv_tableIn (tgt := 108) hx hb dX5_about_44 (by rw [c3]; decide) (by rw [c3]; decide) (by rw [c3]; exact rfl) (by decide) ?_
            refine lv_iconst (v := (-1 : Int32)) hx hb dX5_about_108 (by decide) ?_
            refine lv_aload_n hx hb dX5_about_109 rfl (lv_at hl 1 rfl) ?_
            refine lv_iload_n hx hb dX5_about_110 rfl (lv_at hl 2 rfl) ?_
            refine lv_iconst (v := (-1 : Int32)) hx hb dX5_about_111 (by decide) ?_
            refine ty_Vi (As := [.int x1, .int (-1 : Int32)]) (b := 0) (rest := [.int (-1 : Int32)]) X Y (cX5_remembers_C l D cA q S1 x1 (-1 : Int32) _ h) rfl rfl (fun hts => cwV 2 hts gX5_about_X5_remembers rfl rfl rfl (by decide +kernel) ⟨Nat.le_of_ble_eq_true rfl, Nat.le_of_ble_eq_true rfl⟩) rfl hl.1 (Nat.le_of_ble_eq_true rfl) dX5_about_112 ⟨Nat.zero_le _, Nat.zero_le _⟩ (fun r2 S2 H locs h Y => ?_)
            refine lv_isub hx hb dX5_about_115 ?_
            exact ty_iret X Y h dX5_about_116
          · have h := ty_f h c3
            refine lv_tableOut (tgt := 117) hx hb dX5_about_44 (ty_out (fun k h1 h2 => ?_)) (by decide) ?_
            · have hk : k = 0 ∨ k = 1 ∨ k = 2 ∨ k = 3 := by omega
              rcases hk with rfl | rfl | rfl | rfl
              · exact c0
              · exact c1
              · exact c2
              · exact c3
            · refine lv_aload_n hx hb dX5_about_117 rfl (lv_at hl 1 rfl) ?_
              refine tg_X5_count X Y iX5_about_X5 kX5_about_3 dX5_about_118 ?_
              refine lv_iload_n hx hb dX5_about_121 rfl (lv_at hl 2 rfl) ?_
              refine ty_iald (v := (S1 38 x1.toNatClampNeg)) X Y 9 40 38 rfl h.1 rfl dX5_about_122 ?_
              have h := h.2
              refine lv_if_ne (tgt := 130) hx hb dX5_about_123 (by decide) (fun c9 => ?_) (fun c9 => ?_)
              · have h := ty_f h c9
                refine lv_aload_n hx hb dX5_about_130 rfl (lv_at hl 1 rfl) ?_
                refine tg_X5_label X Y iX5_about_X5 kX5_about_4 dX5_about_131 ?_
                refine lv_aload_n hx hb dX5_about_134 rfl (lv_at hl 1 rfl) ?_
                refine tg_X5_has X Y iX5_about_X5 kX5_about_5 dX5_about_135 ?_
                refine lv_bipush (v := (16 : Int32)) hx hb dX5_about_138 (by decide) ?_
                refine lv_iload_n hx hb dX5_about_140 rfl (lv_at hl 2 rfl) ?_
                refine lv_imul hx hb dX5_about_141 ?_
                refine lv_aload_n hx hb dX5_about_142 rfl (lv_at hl 1 rfl) ?_
                refine tg_X5_count X Y iX5_about_X5 kX5_about_3 dX5_about_143 ?_
                refine lv_iload_n hx hb dX5_about_146 rfl (lv_at hl 2 rfl) ?_
                refine ty_iald (v := (S1 38 x1.toNatClampNeg)) X Y 9 40 38 rfl h.1 rfl dX5_about_147 ?_
                have h := h.2
                refine lv_iadd hx hb dX5_about_148 ?_
                refine lv_iconst (v := (1 : Int32)) hx hb dX5_about_149 (by decide) ?_
                refine lv_isub hx hb dX5_about_150 ?_
                refine ty_iald (v := (S1 39 ((((16 : Int32) * x1) + (S1 38 x1.toNatClampNeg)) - (1 : Int32)).toNatClampNeg)) X Y 10 640 39 rfl h.1 rfl dX5_about_151 ?_
                have h := h.2
                refine ty_iald (v := (S1 30 (S1 39 ((((16 : Int32) * x1) + (S1 38 x1.toNatClampNeg)) - (1 : Int32)).toNatClampNeg).toNatClampNeg)) X Y 1 640 30 rfl h.1 rfl dX5_about_152 ?_
                have h := h.2
                exact ty_iret X Y h dX5_about_153
              · have h := ty_t h c9
                refine lv_iconst (v := (0 : Int32)) hx hb dX5_about_126 (by decide) ?_
                refine lv_goto (tgt := 153) hx hb dX5_about_127 (by decide) ?_
                exact ty_iret X Y h dX5_about_153
  · have h := ty_f h c9
    refine lv_iconst (v := (0 : Int32)) hx hb dX5_about_35 (by decide) ?_
    exact ty_iret X Y h dX5_about_36
def jX5_about_20 (K : ty_S → Int32 → Prop)  (x1 : Int32) (x2 : Int32) (S : ty_S) : Prop :=
  jX5_about_25 K  x1 x2 (1 : Int32) S
set_option maxHeartbeats 4000000 in
set_option maxRecDepth 100000 in
theorem wjX5_about_20 {p : Program} {l : Launch} {e : Env} {s : State} {m : MethodId} {args : Array Value} {below : List Frame} {meth : Method} {c : Code} {D : va_G} {cA : Nat → ClassId} {q : Nat → Nat} {K : ty_S → Int32 → Prop}  (X : ty_X D cA p s m args meth c cX5_about 4 (some .int) wsX5_about RX5)  (x1 : Int32) (x2 : Int32) (S : ty_S) (H : Heap) (locs : List Loc) (ls : Array Slot) (h : jX5_about_20 K  x1 x2 S) (Y : ty_Y D cA q ty_LM S s H locs) (hl : lv_has ls 4 [(0, .ref (q 0)), (1, .int x1), (2, .int x2)]) : W p l e rX5_about s m args below meth c H locs 0 0 (ty_MI D cA q ty_LM K below args s) (F0 m 20 ls [.ref (q 0)]) := by
  have hx := X.1.1
  have hb := X.1.2.1
  unfold jX5_about_20 at h
  refine lv_iconst (v := (1 : Int32)) hx hb dX5_about_20 (by decide) ?_
  refine lv_goto (tgt := 25) hx hb dX5_about_21 (by decide) ?_
  exact wjX5_about_25 X  _ _ _ _ _ _ _ h Y (lv_sub hl [0, 1, 2] rfl)
def eX5_about (S : ty_S) (x1 : Int32) (x2 : Int32) (K : ty_S → Int32 → Prop) : Prop :=
  (if x1 < (0 : Int32) then jX5_about_20 K  x1 x2 S else (if (40 : Int32) ≤ x1 then jX5_about_20 K  x1 x2 S else (if x2 < (0 : Int32) then jX5_about_20 K  x1 x2 S else (if x2 ≤ (4 : Int32) then jX5_about_25 K  x1 x2 (0 : Int32) S else jX5_about_20 K  x1 x2 S))))
set_option maxHeartbeats 4000000 in
set_option maxRecDepth 100000 in
theorem cX5_about_C (l : Launch) (D : va_G) (cA : Nat → ClassId) (q : Nat → Nat) (S : ty_S) (x1 : Int32) (x2 : Int32) (K : ty_S → Int32 → Prop) (h : eX5_about S x1 x2 K) : ∀ sz, Met l yX5_about wsX5_about rX5_about (ty_Pc D cA q ty_LM S sz [.ref (q 0), .int x1, .int x2]) (ty_Qi D cA q ty_LM sz K) 0 0 (ty_A q ty_LM.length sz) := by
  refine ty_ofM (ret := (some .int)) (maxL := 4) (cc := cX5_about) (own := RX5) (Qc := fun sz => ty_Qi D cA q ty_LM sz K) (by decide +kernel) rfl (Nat.le_of_ble_eq_true rfl) rfl ?_
  intro p e s m args below meth c ls X hl Y
  have hx := X.1.1
  have hb := X.1.2.1
  have hl : lv_has ls 4 [(0, .ref (q 0)), (1, .int x1), (2, .int x2)] := hl
  unfold eX5_about at h
  refine lv_aload_n hx hb dX5_about_0 rfl (lv_at hl 0 rfl) ?_
  refine lv_iload_n hx hb dX5_about_1 rfl (lv_at hl 1 rfl) ?_
  refine lv_if_lt (tgt := 20) hx hb dX5_about_2 (by decide) (fun c9 => ?_) (fun c9 => ?_)
  · have h := ty_t h c9
    exact wjX5_about_20 X  _ _ _ _ _ _ h Y (lv_sub hl [0, 1, 2] rfl)
  · have h := ty_f h c9
    refine lv_iload_n hx hb dX5_about_5 rfl (lv_at hl 1 rfl) ?_
    refine lv_bipush (v := (40 : Int32)) hx hb dX5_about_6 (by decide) ?_
    refine lv_icmp_ge (tgt := 20) hx hb dX5_about_8 (by decide) (fun c9 => ?_) (fun c9 => ?_)
    · have h := ty_t h c9
      exact wjX5_about_20 X  _ _ _ _ _ _ h Y (lv_sub hl [0, 1, 2] rfl)
    · have h := ty_f h c9
      refine lv_iload_n hx hb dX5_about_11 rfl (lv_at hl 2 rfl) ?_
      refine lv_if_lt (tgt := 20) hx hb dX5_about_12 (by decide) (fun c9 => ?_) (fun c9 => ?_)
      · have h := ty_t h c9
        exact wjX5_about_20 X  _ _ _ _ _ _ h Y (lv_sub hl [0, 1, 2] rfl)
      · have h := ty_f h c9
        refine lv_iload_n hx hb dX5_about_15 rfl (lv_at hl 2 rfl) ?_
        refine lv_iconst (v := (4 : Int32)) hx hb dX5_about_16 (by decide) ?_
        refine lv_icmp_le (tgt := 24) hx hb dX5_about_17 (by decide) (fun c9 => ?_) (fun c9 => ?_)
        · have h := ty_t h c9
          refine lv_iconst (v := (0 : Int32)) hx hb dX5_about_24 (by decide) ?_
          exact wjX5_about_25 X  _ _ _ _ _ _ _ h Y (lv_sub hl [0, 1, 2] rfl)
        · have h := ty_f h c9
          exact wjX5_about_20 X  _ _ _ _ _ _ h Y (lv_sub hl [0, 1, 2] rfl)

abbrev rX5_remembered : Room := { frames := 3, cells := 0, slots := 0, locals := 73 }
theorem kX5_remembered_0 : Cond.fieldLink RX5 75 "TrainYardModel" "thrown" "I" ∈ wsX5_remembered := ty_m 1 (by decide +kernel)
theorem iX5_remembered_X5 : ∀ w ∈ wsX50, w ∈ wsX5_remembered := ty_inp _ [32, 33, 34, 35, 36, 37, 38, 39, 40, 41, 42, 43, 44, 45, 46, 47, 48, 49, 50, 51, 52, 53, 54, 55, 56, 57, 58, 59, 60, 61, 62] (by decide +kernel)
def jX5_remembered_30 (K : ty_S → Int32 → Prop)   (S : ty_S) : Prop :=
  (if (S 60 0) ≤ (0 : Int32) then K S (-1 : Int32) else K S (0 : Int32))
set_option maxHeartbeats 4000000 in
set_option maxRecDepth 100000 in
theorem wjX5_remembered_30 {p : Program} {l : Launch} {e : Env} {s : State} {m : MethodId} {args : Array Value} {below : List Frame} {meth : Method} {c : Code} {D : va_G} {cA : Nat → ClassId} {q : Nat → Nat} {K : ty_S → Int32 → Prop}  (X : ty_X D cA p s m args meth c cX5_remembered 4 (some .int) wsX5_remembered RX5)   (S : ty_S) (H : Heap) (locs : List Loc) (ls : Array Slot) (h : jX5_remembered_30 K   S) (Y : ty_Y D cA q ty_LM S s H locs) (hl : lv_has ls 4 [(0, .ref (q 0))]) : W p l e rX5_remembered s m args below meth c H locs 0 0 (ty_MI D cA q ty_LM K below args s) (F0 m 30 ls []) := by
  have hx := X.1.1
  have hb := X.1.2.1
  unfold jX5_remembered_30 at h
  refine lv_aload_n hx hb dX5_remembered_30 rfl (lv_at hl 0 rfl) ?_
  refine tg_X5_thrown (v := (S 60 0)) X Y iX5_remembered_X5 kX5_remembered_0 rfl dX5_remembered_31 ?_
  refine lv_if_le (tgt := 41) hx hb dX5_remembered_34 (by decide) (fun c9 => ?_) (fun c9 => ?_)
  · have h := ty_t h c9
    refine lv_iconst (v := (-1 : Int32)) hx hb dX5_remembered_41 (by decide) ?_
    exact ty_iret X Y h dX5_remembered_42
  · have h := ty_f h c9
    refine lv_iconst (v := (0 : Int32)) hx hb dX5_remembered_37 (by decide) ?_
    refine lv_goto (tgt := 42) hx hb dX5_remembered_38 (by decide) ?_
    exact ty_iret X Y h dX5_remembered_42
def jX5_remembered_16 (K : ty_S → Int32 → Prop)  (x1 : Int32) (x2 : Int32) (t0 : Int32) (S : ty_S) : Prop :=
  (if (0 : Int32) < t0 then jX5_remembered_30 K   (ty_st S 60 0 t0) else (if (0 : Int32) ≤ x2 then (eX5_remembers (ty_st S 60 0 t0) x1 x2 (fun S1 r1 => (if (0 : Int32) ≤ r1 then K S1 r1 else K S1 (-1 : Int32)))) else jX5_remembered_30 K   (ty_st S 60 0 t0)))
set_option maxHeartbeats 4000000 in
set_option maxRecDepth 100000 in
theorem wjX5_remembered_16 {p : Program} {l : Launch} {e : Env} {s : State} {m : MethodId} {args : Array Value} {below : List Frame} {meth : Method} {c : Code} {D : va_G} {cA : Nat → ClassId} {q : Nat → Nat} {K : ty_S → Int32 → Prop}  (X : ty_X D cA p s m args meth c cX5_remembered 4 (some .int) wsX5_remembered RX5)  (x1 : Int32) (x2 : Int32) (t0 : Int32) (S : ty_S) (H : Heap) (locs : List Loc) (ls : Array Slot) (h : jX5_remembered_16 K  x1 x2 t0 S) (Y : ty_Y D cA q ty_LM S s H locs) (hl : lv_has ls 4 [(0, .ref (q 0)), (1, .int x1), (2, .int x2)]) : W p l e rX5_remembered s m args below meth c H locs 0 0 (ty_MI D cA q ty_LM K below args s) (F0 m 16 ls [.int t0, .ref (q 0)]) := by
  have hx := X.1.1
  have hb := X.1.2.1
  unfold jX5_remembered_16 at h
  refine tp_X5_thrown X Y iX5_remembered_X5 kX5_remembered_0 dX5_remembered_16 (fun H locs Y => ?_)
  refine lv_aload_n hx hb dX5_remembered_19 rfl (lv_at hl 0 rfl) ?_
  refine tg_X5_thrown (v := t0) X Y iX5_remembered_X5 kX5_remembered_0 rfl dX5_remembered_20 ?_
  refine lv_if_gt (tgt := 30) hx hb dX5_remembered_23 (by decide) (fun c9 => ?_) (fun c9 => ?_)
  · have h := ty_t h c9
    exact wjX5_remembered_30 X  _ _ _ _ h Y (lv_sub hl [0] rfl)
  · have h := ty_f h c9
    refine lv_iload_n hx hb dX5_remembered_26 rfl (lv_at hl 2 rfl) ?_
    refine lv_if_ge (tgt := 43) hx hb dX5_remembered_27 (by decide) (fun c9 => ?_) (fun c9 => ?_)
    · have h := ty_t h c9
      refine lv_aload_n hx hb dX5_remembered_43 rfl (lv_at hl 0 rfl) ?_
      refine lv_iload_n hx hb dX5_remembered_44 rfl (lv_at hl 1 rfl) ?_
      refine lv_iload_n hx hb dX5_remembered_45 rfl (lv_at hl 2 rfl) ?_
      refine ty_Vi (As := [.int x1, .int x2]) (b := 0) (rest := []) X Y (cX5_remembers_C l D cA q (ty_st S 60 0 t0) x1 x2 _ h) rfl rfl (fun hts => cwV 2 hts gX5_remembered_X5_remembers rfl rfl rfl (by decide +kernel) ⟨Nat.le_of_ble_eq_true rfl, Nat.le_of_ble_eq_true rfl⟩) rfl hl.1 (Nat.le_of_ble_eq_true rfl) dX5_remembered_46 ⟨Nat.zero_le _, Nat.zero_le _⟩ (fun r1 S1 H locs h Y => ?_)
      refine lv_istore_n (lv' := [(3, .int r1), (0, .ref (q 0)), (1, .int x1), (2, .int x2)]) hx hb dX5_remembered_49 rfl hl (by decide) rfl (fun ls hl => ?_)
      refine lv_iload_n hx hb dX5_remembered_50 rfl (lv_at hl 0 rfl) ?_
      refine lv_if_ge (tgt := 58) hx hb dX5_remembered_51 (by decide) (fun c9 => ?_) (fun c9 => ?_)
      · have h := ty_t h c9
        refine lv_iload_n hx hb dX5_remembered_58 rfl (lv_at hl 0 rfl) ?_
        exact ty_iret X Y h dX5_remembered_59
      · have h := ty_f h c9
        refine lv_iconst (v := (-1 : Int32)) hx hb dX5_remembered_54 (by decide) ?_
        refine lv_goto (tgt := 59) hx hb dX5_remembered_55 (by decide) ?_
        exact ty_iret X Y h dX5_remembered_59
    · have h := ty_f h c9
      exact wjX5_remembered_30 X  _ _ _ _ h Y (lv_sub hl [0] rfl)
def jX5_remembered_11 (K : ty_S → Int32 → Prop)  (x1 : Int32) (x2 : Int32) (S : ty_S) : Prop :=
  jX5_remembered_16 K  x1 x2 (1 : Int32) S
set_option maxHeartbeats 4000000 in
set_option maxRecDepth 100000 in
theorem wjX5_remembered_11 {p : Program} {l : Launch} {e : Env} {s : State} {m : MethodId} {args : Array Value} {below : List Frame} {meth : Method} {c : Code} {D : va_G} {cA : Nat → ClassId} {q : Nat → Nat} {K : ty_S → Int32 → Prop}  (X : ty_X D cA p s m args meth c cX5_remembered 4 (some .int) wsX5_remembered RX5)  (x1 : Int32) (x2 : Int32) (S : ty_S) (H : Heap) (locs : List Loc) (ls : Array Slot) (h : jX5_remembered_11 K  x1 x2 S) (Y : ty_Y D cA q ty_LM S s H locs) (hl : lv_has ls 4 [(0, .ref (q 0)), (1, .int x1), (2, .int x2)]) : W p l e rX5_remembered s m args below meth c H locs 0 0 (ty_MI D cA q ty_LM K below args s) (F0 m 11 ls [.ref (q 0)]) := by
  have hx := X.1.1
  have hb := X.1.2.1
  unfold jX5_remembered_11 at h
  refine lv_iconst (v := (1 : Int32)) hx hb dX5_remembered_11 (by decide) ?_
  refine lv_goto (tgt := 16) hx hb dX5_remembered_12 (by decide) ?_
  exact wjX5_remembered_16 X  _ _ _ _ _ _ _ h Y (lv_sub hl [0, 1, 2] rfl)
def eX5_remembered (S : ty_S) (x1 : Int32) (x2 : Int32) (K : ty_S → Int32 → Prop) : Prop :=
  (if x1 < (0 : Int32) then jX5_remembered_11 K  x1 x2 S else (if x1 < (40 : Int32) then jX5_remembered_16 K  x1 x2 (0 : Int32) S else jX5_remembered_11 K  x1 x2 S))
set_option maxHeartbeats 4000000 in
set_option maxRecDepth 100000 in
theorem cX5_remembered_C (l : Launch) (D : va_G) (cA : Nat → ClassId) (q : Nat → Nat) (S : ty_S) (x1 : Int32) (x2 : Int32) (K : ty_S → Int32 → Prop) (h : eX5_remembered S x1 x2 K) : ∀ sz, Met l yX5_remembered wsX5_remembered rX5_remembered (ty_Pc D cA q ty_LM S sz [.ref (q 0), .int x1, .int x2]) (ty_Qi D cA q ty_LM sz K) 0 0 (ty_A q ty_LM.length sz) := by
  refine ty_ofM (ret := (some .int)) (maxL := 4) (cc := cX5_remembered) (own := RX5) (Qc := fun sz => ty_Qi D cA q ty_LM sz K) (by decide +kernel) rfl (Nat.le_of_ble_eq_true rfl) rfl ?_
  intro p e s m args below meth c ls X hl Y
  have hx := X.1.1
  have hb := X.1.2.1
  have hl : lv_has ls 4 [(0, .ref (q 0)), (1, .int x1), (2, .int x2)] := hl
  unfold eX5_remembered at h
  refine lv_aload_n hx hb dX5_remembered_0 rfl (lv_at hl 0 rfl) ?_
  refine lv_iload_n hx hb dX5_remembered_1 rfl (lv_at hl 1 rfl) ?_
  refine lv_if_lt (tgt := 11) hx hb dX5_remembered_2 (by decide) (fun c9 => ?_) (fun c9 => ?_)
  · have h := ty_t h c9
    exact wjX5_remembered_11 X  _ _ _ _ _ _ h Y (lv_sub hl [0, 1, 2] rfl)
  · have h := ty_f h c9
    refine lv_iload_n hx hb dX5_remembered_5 rfl (lv_at hl 1 rfl) ?_
    refine lv_bipush (v := (40 : Int32)) hx hb dX5_remembered_6 (by decide) ?_
    refine lv_icmp_lt (tgt := 15) hx hb dX5_remembered_8 (by decide) (fun c9 => ?_) (fun c9 => ?_)
    · have h := ty_t h c9
      refine lv_iconst (v := (0 : Int32)) hx hb dX5_remembered_15 (by decide) ?_
      exact wjX5_remembered_16 X  _ _ _ _ _ _ _ h Y (lv_sub hl [0, 1, 2] rfl)
    · have h := ty_f h c9
      exact wjX5_remembered_11 X  _ _ _ _ _ _ h Y (lv_sub hl [0, 1, 2] rfl)

abbrev rX5_word : Room := { frames := 1, cells := 0, slots := 0, locals := 21 }
theorem kX5_word_0 : Cond.fieldLink RX5 75 "TrainYardModel" "thrown" "I" ∈ wsX5_word := ty_m 1 (by decide +kernel)
theorem kX5_word_1 : Cond.fieldLink RX5 34 "TrainYardModel" "count" "[I" ∈ wsX5_word := ty_m 2 (by decide +kernel)
theorem kX5_word_2 : Cond.fieldLink RX5 37 "TrainYardModel" "has" "[I" ∈ wsX5_word := ty_m 3 (by decide +kernel)
theorem kX5_word_3 : Cond.fieldLink RX5 16 "TrainYardModel" "offset" "[I" ∈ wsX5_word := ty_m 4 (by decide +kernel)
theorem kX5_word_4 : Cond.fieldLink RX5 19 "TrainYardModel" "references" "[I" ∈ wsX5_word := ty_m 5 (by decide +kernel)
theorem kX5_word_5 : Cond.fieldLink RX5 28 "TrainYardModel" "value" "[I" ∈ wsX5_word := ty_m 9 (by decide +kernel)
theorem kX5_word_6 : Cond.fieldLink RX5 22 "TrainYardModel" "numbers" "[I" ∈ wsX5_word := ty_m 8 (by decide +kernel)
theorem kX5_word_7 : Cond.fieldLink RX5 7 "TrainYardModel" "label" "[I" ∈ wsX5_word := ty_m 7 (by decide +kernel)
theorem kX5_word_8 : Cond.fieldLink RX5 25 "TrainYardModel" "to" "[I" ∈ wsX5_word := ty_m 6 (by decide +kernel)
theorem iX5_word_X5 : ∀ w ∈ wsX50, w ∈ wsX5_word := ty_inp _ [20, 21, 22, 23, 24, 25, 26, 27, 28, 29, 30, 31, 32, 33, 34, 35, 36, 37, 38, 39, 40, 41, 42, 43, 44, 45, 46, 47, 48, 49, 50] (by decide +kernel)
def jX5_word_134 (K : ty_S → Int32 → Prop)  (x5 : Int32) (x6 : Int32) (x7 : Int32) (t0 : Int32) (S : ty_S) : Prop :=
  (if x6 = (0 : Int32) then (vp_in x5 640 ∧ K S (S 30 x5.toNatClampNeg)) else (if x6 = (1 : Int32) then (vp_in x5 640 ∧ (vp_in x5 640 ∧ K S ((S 33 x5.toNatClampNeg) + ((16 : Int32) * (S 34 x5.toNatClampNeg))))) else (vp_in x5 640 ∧ (if x7 < (S 33 x5.toNatClampNeg) then (if (0 : Int32) ≤ t0 then (eX5_place S t0 (fun S2 r2 => K S2 r2)) else K S (-1 : Int32)) else (vp_in x5 640 ∧ (vp_in ((((12 : Int32) * x5) + x7) - (S 33 x5.toNatClampNeg)) 7680 ∧ K S (S 36 ((((12 : Int32) * x5) + x7) - (S 33 x5.toNatClampNeg)).toNatClampNeg)))))))
set_option maxHeartbeats 4000000 in
set_option maxRecDepth 100000 in
theorem wjX5_word_134 {p : Program} {l : Launch} {e : Env} {s : State} {m : MethodId} {args : Array Value} {below : List Frame} {meth : Method} {c : Code} {D : va_G} {cA : Nat → ClassId} {q : Nat → Nat} {K : ty_S → Int32 → Prop}  (X : ty_X D cA p s m args meth c cX5_word 9 (some .int) wsX5_word RX5)  (x5 : Int32) (x6 : Int32) (x7 : Int32) (t0 : Int32) (S : ty_S) (H : Heap) (locs : List Loc) (ls : Array Slot) (h : jX5_word_134 K  x5 x6 x7 t0 S) (Y : ty_Y D cA q ty_LM S s H locs) (hl : lv_has ls 9 [(0, .ref (q 0)), (5, .int x5), (6, .int x6), (7, .int x7)]) : W p l e rX5_word s m args below meth c H locs 0 0 (ty_MI D cA q ty_LM K below args s) (F0 m 134 ls [.int t0]) := by
  have hx := X.1.1
  have hb := X.1.2.1
  unfold jX5_word_134 at h
  refine lv_istore (lv' := [(8, .int t0), (0, .ref (q 0)), (5, .int x5), (6, .int x6), (7, .int x7)]) hx hb dX5_word_134 hl (by decide) rfl (fun ls hl => ?_)
  refine lv_iload hx hb dX5_word_136 (lv_at hl 3 rfl) ?_
  refine lv_if_ne (tgt := 151) hx hb dX5_word_138 (by decide) (fun c9 => ?_) (fun c9 => ?_)
  · have h := ty_f h c9
    refine lv_iload hx hb dX5_word_151 (lv_at hl 3 rfl) ?_
    refine lv_iconst (v := (1 : Int32)) hx hb dX5_word_153 (by decide) ?_
    refine lv_icmp_ne (tgt := 178) hx hb dX5_word_154 (by decide) (fun c9 => ?_) (fun c9 => ?_)
    · have h := ty_f h c9
      refine lv_iload hx hb dX5_word_178 (lv_at hl 4 rfl) ?_
      refine lv_aload_n hx hb dX5_word_180 rfl (lv_at hl 1 rfl) ?_
      refine tg_X5_references X Y iX5_word_X5 kX5_word_4 dX5_word_181 ?_
      refine lv_iload hx hb dX5_word_184 (lv_at hl 2 rfl) ?_
      refine ty_iald (v := (S 33 x5.toNatClampNeg)) X Y 4 640 33 rfl h.1 rfl dX5_word_186 ?_
      have h := h.2
      refine lv_icmp_lt (tgt := 214) hx hb dX5_word_187 (by decide) (fun c9 => ?_) (fun c9 => ?_)
      · have h := ty_t h c9
        refine lv_iload hx hb dX5_word_214 (lv_at hl 0 rfl) ?_
        refine lv_if_ge (tgt := 223) hx hb dX5_word_216 (by decide) (fun c9 => ?_) (fun c9 => ?_)
        · have h := ty_t h c9
          refine lv_aload_n hx hb dX5_word_223 rfl (lv_at hl 1 rfl) ?_
          refine lv_iload hx hb dX5_word_224 (lv_at hl 0 rfl) ?_
          refine ty_Vi (As := [.int t0]) (b := 0) (rest := []) X Y (cX5_place_C l D cA q S t0 _ h) rfl rfl (fun hts => cwV 1 hts gX5_word_X5_place rfl rfl rfl (by decide +kernel) ⟨Nat.le_of_ble_eq_true rfl, Nat.le_of_ble_eq_true rfl⟩) rfl hl.1 (Nat.le_of_ble_eq_true rfl) dX5_word_226 ⟨Nat.zero_le _, Nat.zero_le _⟩ (fun r2 S2 H locs h Y => ?_)
          exact ty_iret X Y h dX5_word_229
        · have h := ty_f h c9
          refine lv_iconst (v := (-1 : Int32)) hx hb dX5_word_219 (by decide) ?_
          refine lv_goto (tgt := 229) hx hb dX5_word_220 (by decide) ?_
          exact ty_iret X Y h dX5_word_229
      · have h := ty_f h c9
        refine lv_aload_n hx hb dX5_word_190 rfl (lv_at hl 1 rfl) ?_
        refine tg_X5_value X Y iX5_word_X5 kX5_word_5 dX5_word_191 ?_
        refine lv_bipush (v := (12 : Int32)) hx hb dX5_word_194 (by decide) ?_
        refine lv_iload hx hb dX5_word_196 (lv_at hl 2 rfl) ?_
        refine lv_imul hx hb dX5_word_198 ?_
        refine lv_iload hx hb dX5_word_199 (lv_at hl 4 rfl) ?_
        refine lv_iadd hx hb dX5_word_201 ?_
        refine lv_aload_n hx hb dX5_word_202 rfl (lv_at hl 1 rfl) ?_
        refine tg_X5_references X Y iX5_word_X5 kX5_word_4 dX5_word_203 ?_
        refine lv_iload hx hb dX5_word_206 (lv_at hl 2 rfl) ?_
        refine ty_iald (v := (S 33 x5.toNatClampNeg)) X Y 4 640 33 rfl h.1 rfl dX5_word_208 ?_
        have h := h.2
        refine lv_isub hx hb dX5_word_209 ?_
        refine ty_iald (v := (S 36 ((((12 : Int32) * x5) + x7) - (S 33 x5.toNatClampNeg)).toNatClampNeg)) X Y 7 7680 36 rfl h.1 rfl dX5_word_210 ?_
        have h := h.2
        refine lv_goto (tgt := 229) hx hb dX5_word_211 (by decide) ?_
        exact ty_iret X Y h dX5_word_229
    · have h := ty_t h c9
      refine lv_aload_n hx hb dX5_word_157 rfl (lv_at hl 1 rfl) ?_
      refine tg_X5_references X Y iX5_word_X5 kX5_word_4 dX5_word_158 ?_
      refine lv_iload hx hb dX5_word_161 (lv_at hl 2 rfl) ?_
      refine ty_iald (v := (S 33 x5.toNatClampNeg)) X Y 4 640 33 rfl h.1 rfl dX5_word_163 ?_
      have h := h.2
      refine lv_bipush (v := (16 : Int32)) hx hb dX5_word_164 (by decide) ?_
      refine lv_aload_n hx hb dX5_word_166 rfl (lv_at hl 1 rfl) ?_
      refine tg_X5_numbers X Y iX5_word_X5 kX5_word_6 dX5_word_167 ?_
      refine lv_iload hx hb dX5_word_170 (lv_at hl 2 rfl) ?_
      refine ty_iald (v := (S 34 x5.toNatClampNeg)) X Y 5 640 34 rfl h.1 rfl dX5_word_172 ?_
      have h := h.2
      refine lv_imul hx hb dX5_word_173 ?_
      refine lv_iadd hx hb dX5_word_174 ?_
      refine lv_goto (tgt := 229) hx hb dX5_word_175 (by decide) ?_
      exact ty_iret X Y h dX5_word_229
  · have h := ty_t h c9
    refine lv_aload_n hx hb dX5_word_141 rfl (lv_at hl 1 rfl) ?_
    refine tg_X5_label X Y iX5_word_X5 kX5_word_7 dX5_word_142 ?_
    refine lv_iload hx hb dX5_word_145 (lv_at hl 2 rfl) ?_
    refine ty_iald (v := (S 30 x5.toNatClampNeg)) X Y 1 640 30 rfl h.1 rfl dX5_word_147 ?_
    have h := h.2
    refine lv_goto (tgt := 229) hx hb dX5_word_148 (by decide) ?_
    exact ty_iret X Y h dX5_word_229
def jX5_word_133 (K : ty_S → Int32 → Prop)  (x5 : Int32) (x6 : Int32) (x7 : Int32) (S : ty_S) : Prop :=
  jX5_word_134 K  x5 x6 x7 (-1 : Int32) S
set_option maxHeartbeats 4000000 in
set_option maxRecDepth 100000 in
theorem wjX5_word_133 {p : Program} {l : Launch} {e : Env} {s : State} {m : MethodId} {args : Array Value} {below : List Frame} {meth : Method} {c : Code} {D : va_G} {cA : Nat → ClassId} {q : Nat → Nat} {K : ty_S → Int32 → Prop}  (X : ty_X D cA p s m args meth c cX5_word 9 (some .int) wsX5_word RX5)  (x5 : Int32) (x6 : Int32) (x7 : Int32) (S : ty_S) (H : Heap) (locs : List Loc) (ls : Array Slot) (h : jX5_word_133 K  x5 x6 x7 S) (Y : ty_Y D cA q ty_LM S s H locs) (hl : lv_has ls 9 [(0, .ref (q 0)), (5, .int x5), (6, .int x6), (7, .int x7)]) : W p l e rX5_word s m args below meth c H locs 0 0 (ty_MI D cA q ty_LM K below args s) (F0 m 133 ls []) := by
  have hx := X.1.1
  have hb := X.1.2.1
  unfold jX5_word_133 at h
  refine lv_iconst (v := (-1 : Int32)) hx hb dX5_word_133 (by decide) ?_
  exact wjX5_word_134 X  _ _ _ _ _ _ _ _ h Y (lv_sub hl [0, 1, 2, 3] rfl)
def lX5_word_42 (K : ty_S → Int32 → Prop)  : Nat → Int32 → Int32 → Int32 → ty_S → Prop
  | 0, _, _, _, _ => False
  | n + 1, x2, x3, x4, S => (vp_in x2 40 ∧ (if (S 38 x2.toNatClampNeg) ≤ x4 then K S (0 : Int32) else (vp_in (((16 : Int32) * x2) + x4) 640 ∧ (vp_in (S 39 (((16 : Int32) * x2) + x4).toNatClampNeg) 640 ∧ (if (x3 - (S 32 (S 39 (((16 : Int32) * x2) + x4).toNatClampNeg).toNatClampNeg)) < (0 : Int32) then lX5_word_42 K  n x2 x3 (x4 + (1 : Int32)) S else (eX5_wordsOf S (S 39 (((16 : Int32) * x2) + x4).toNatClampNeg) (fun S1 r1 => (if r1 ≤ (x3 - (S 32 (S 39 (((16 : Int32) * x2) + x4).toNatClampNeg).toNatClampNeg)) then lX5_word_42 K  n x2 x3 (x4 + (1 : Int32)) S1 else (if ((x3 - (S 32 (S 39 (((16 : Int32) * x2) + x4).toNatClampNeg).toNatClampNeg)) - (2 : Int32)) < (0 : Int32) then jX5_word_133 K  (S 39 (((16 : Int32) * x2) + x4).toNatClampNeg) (x3 - (S 32 (S 39 (((16 : Int32) * x2) + x4).toNatClampNeg).toNatClampNeg)) ((x3 - (S 32 (S 39 (((16 : Int32) * x2) + x4).toNatClampNeg).toNatClampNeg)) - (2 : Int32)) S1 else (vp_in (S 39 (((16 : Int32) * x2) + x4).toNatClampNeg) 640 ∧ (if (S1 33 (S 39 (((16 : Int32) * x2) + x4).toNatClampNeg).toNatClampNeg) ≤ ((x3 - (S 32 (S 39 (((16 : Int32) * x2) + x4).toNatClampNeg).toNatClampNeg)) - (2 : Int32)) then jX5_word_133 K  (S 39 (((16 : Int32) * x2) + x4).toNatClampNeg) (x3 - (S 32 (S 39 (((16 : Int32) * x2) + x4).toNatClampNeg).toNatClampNeg)) ((x3 - (S 32 (S 39 (((16 : Int32) * x2) + x4).toNatClampNeg).toNatClampNeg)) - (2 : Int32)) S1 else (vp_in (((12 : Int32) * (S 39 (((16 : Int32) * x2) + x4).toNatClampNeg)) + ((x3 - (S 32 (S 39 (((16 : Int32) * x2) + x4).toNatClampNeg).toNatClampNeg)) - (2 : Int32))) 7680 ∧ jX5_word_134 K  (S 39 (((16 : Int32) * x2) + x4).toNatClampNeg) (x3 - (S 32 (S 39 (((16 : Int32) * x2) + x4).toNatClampNeg).toNatClampNeg)) ((x3 - (S 32 (S 39 (((16 : Int32) * x2) + x4).toNatClampNeg).toNatClampNeg)) - (2 : Int32)) (S1 35 (((12 : Int32) * (S 39 (((16 : Int32) * x2) + x4).toNatClampNeg)) + ((x3 - (S 32 (S 39 (((16 : Int32) * x2) + x4).toNatClampNeg).toNatClampNeg)) - (2 : Int32))).toNatClampNeg) S1))))))))))))
set_option maxHeartbeats 4000000 in
set_option maxRecDepth 100000 in
theorem wlX5_word_42 {p : Program} {l : Launch} {e : Env} {s : State} {m : MethodId} {args : Array Value} {below : List Frame} {meth : Method} {c : Code} {D : va_G} {cA : Nat → ClassId} {q : Nat → Nat} {K : ty_S → Int32 → Prop}  (X : ty_X D cA p s m args meth c cX5_word 9 (some .int) wsX5_word RX5)  : ∀ (n : Nat) (x2 : Int32) (x3 : Int32) (x4 : Int32) (S : ty_S) (H : Heap) (locs : List Loc) (ls : Array Slot), lX5_word_42 K  n x2 x3 x4 S → ty_Y D cA q ty_LM S s H locs → lv_has ls 9 [(0, .ref (q 0)), (2, .int x2), (3, .int x3), (4, .int x4)] → W p l e rX5_word s m args below meth c H locs 0 0 (ty_MI D cA q ty_LM K below args s) (F0 m 42 ls []) := by
  have hx := X.1.1
  have hb := X.1.2.1
  intro n
  induction n with
  | zero =>
    intro x2 x3 x4 S H locs ls h
    exact False.elim h
  | succ n ih =>
    intro x2 x3 x4 S H locs ls h Y hl
    unfold lX5_word_42 at h
    refine lv_iload hx hb dX5_word_42 (lv_at hl 3 rfl) ?_
    refine lv_aload_n hx hb dX5_word_44 rfl (lv_at hl 0 rfl) ?_
    refine tg_X5_count X Y iX5_word_X5 kX5_word_1 dX5_word_45 ?_
    refine lv_iload_n hx hb dX5_word_48 rfl (lv_at hl 1 rfl) ?_
    refine ty_iald (v := (S 38 x2.toNatClampNeg)) X Y 9 40 38 rfl h.1 rfl dX5_word_49 ?_
    have h := h.2
    refine lv_icmp_ge (tgt := 236) hx hb dX5_word_50 (by decide) (fun c9 => ?_) (fun c9 => ?_)
    · have h := ty_t h c9
      refine lv_iconst (v := (0 : Int32)) hx hb dX5_word_236 (by decide) ?_
      exact ty_iret X Y h dX5_word_237
    · have h := ty_f h c9
      refine lv_aload_n hx hb dX5_word_53 rfl (lv_at hl 0 rfl) ?_
      refine tg_X5_has X Y iX5_word_X5 kX5_word_2 dX5_word_54 ?_
      refine lv_bipush (v := (16 : Int32)) hx hb dX5_word_57 (by decide) ?_
      refine lv_iload_n hx hb dX5_word_59 rfl (lv_at hl 1 rfl) ?_
      refine lv_imul hx hb dX5_word_60 ?_
      refine lv_iload hx hb dX5_word_61 (lv_at hl 3 rfl) ?_
      refine lv_iadd hx hb dX5_word_63 ?_
      refine ty_iald (v := (S 39 (((16 : Int32) * x2) + x4).toNatClampNeg)) X Y 10 640 39 rfl h.1 rfl dX5_word_64 ?_
      have h := h.2
      refine lv_istore (lv' := [(5, .int (S 39 (((16 : Int32) * x2) + x4).toNatClampNeg)), (0, .ref (q 0)), (2, .int x2), (3, .int x3), (4, .int x4)]) hx hb dX5_word_65 hl (by decide) rfl (fun ls hl => ?_)
      refine lv_iload_n hx hb dX5_word_67 rfl (lv_at hl 3 rfl) ?_
      refine lv_aload_n hx hb dX5_word_68 rfl (lv_at hl 1 rfl) ?_
      refine tg_X5_offset X Y iX5_word_X5 kX5_word_3 dX5_word_69 ?_
      refine lv_iload hx hb dX5_word_72 (lv_at hl 0 rfl) ?_
      refine ty_iald (v := (S 32 (S 39 (((16 : Int32) * x2) + x4).toNatClampNeg).toNatClampNeg)) X Y 3 640 32 rfl h.1 rfl dX5_word_74 ?_
      have h := h.2
      refine lv_isub hx hb dX5_word_75 ?_
      refine lv_istore (lv' := [(6, .int (x3 - (S 32 (S 39 (((16 : Int32) * x2) + x4).toNatClampNeg).toNatClampNeg))), (5, .int (S 39 (((16 : Int32) * x2) + x4).toNatClampNeg)), (0, .ref (q 0)), (2, .int x2), (3, .int x3), (4, .int x4)]) hx hb dX5_word_76 hl (by decide) rfl (fun ls hl => ?_)
      refine lv_iload hx hb dX5_word_78 (lv_at hl 0 rfl) ?_
      refine lv_if_lt (tgt := 230) hx hb dX5_word_80 (by decide) (fun c9 => ?_) (fun c9 => ?_)
      · have h := ty_t h c9
        refine lv_iinc (v := (x4 + (1 : Int32))) (lv' := [(4, .int (x4 + (1 : Int32))), (6, .int (x3 - (S 32 (S 39 (((16 : Int32) * x2) + x4).toNatClampNeg).toNatClampNeg))), (5, .int (S 39 (((16 : Int32) * x2) + x4).toNatClampNeg)), (0, .ref (q 0)), (2, .int x2), (3, .int x3)]) hx hb dX5_word_230 hl (k := 5) rfl rfl (by decide) rfl (fun ls hl => ?_)
        refine lv_goto (tgt := 42) hx hb dX5_word_233 (by decide) ?_
        exact ih _ _ _ _ _ _ _ h Y (lv_sub hl [3, 4, 5, 0] rfl)
      · have h := ty_f h c9
        refine lv_iload hx hb dX5_word_83 (lv_at hl 0 rfl) ?_
        refine lv_aload_n hx hb dX5_word_85 rfl (lv_at hl 2 rfl) ?_
        refine lv_iload hx hb dX5_word_86 (lv_at hl 1 rfl) ?_
        refine ty_Vi (As := [.int (S 39 (((16 : Int32) * x2) + x4).toNatClampNeg)]) (b := 0) (rest := [.int (x3 - (S 32 (S 39 (((16 : Int32) * x2) + x4).toNatClampNeg).toNatClampNeg))]) X Y (cX5_wordsOf_C l D cA q S (S 39 (((16 : Int32) * x2) + x4).toNatClampNeg) _ h) rfl rfl (fun hts => cwV 1 hts gX5_word_X5_wordsOf rfl rfl rfl (by decide +kernel) ⟨Nat.le_of_ble_eq_true rfl, Nat.le_of_ble_eq_true rfl⟩) rfl hl.1 (Nat.le_of_ble_eq_true rfl) dX5_word_88 ⟨Nat.zero_le _, Nat.zero_le _⟩ (fun r1 S1 H locs h Y => ?_)
        refine lv_icmp_ge (tgt := 230) hx hb dX5_word_91 (by decide) (fun c9 => ?_) (fun c9 => ?_)
        · have h := ty_t h c9
          refine lv_iinc (v := (x4 + (1 : Int32))) (lv' := [(4, .int (x4 + (1 : Int32))), (6, .int (x3 - (S 32 (S 39 (((16 : Int32) * x2) + x4).toNatClampNeg).toNatClampNeg))), (5, .int (S 39 (((16 : Int32) * x2) + x4).toNatClampNeg)), (0, .ref (q 0)), (2, .int x2), (3, .int x3)]) hx hb dX5_word_230 hl (k := 5) rfl rfl (by decide) rfl (fun ls hl => ?_)
          refine lv_goto (tgt := 42) hx hb dX5_word_233 (by decide) ?_
          exact ih _ _ _ _ _ _ _ h Y (lv_sub hl [3, 4, 5, 0] rfl)
        · have h := ty_f h c9
          refine lv_iload hx hb dX5_word_94 (lv_at hl 0 rfl) ?_
          refine lv_iconst (v := (2 : Int32)) hx hb dX5_word_96 (by decide) ?_
          refine lv_isub hx hb dX5_word_97 ?_
          refine lv_istore (lv' := [(7, .int ((x3 - (S 32 (S 39 (((16 : Int32) * x2) + x4).toNatClampNeg).toNatClampNeg)) - (2 : Int32))), (6, .int (x3 - (S 32 (S 39 (((16 : Int32) * x2) + x4).toNatClampNeg).toNatClampNeg))), (5, .int (S 39 (((16 : Int32) * x2) + x4).toNatClampNeg)), (0, .ref (q 0)), (2, .int x2), (3, .int x3), (4, .int x4)]) hx hb dX5_word_98 hl (by decide) rfl (fun ls hl => ?_)
          refine lv_iload hx hb dX5_word_100 (lv_at hl 0 rfl) ?_
          refine lv_if_lt (tgt := 133) hx hb dX5_word_102 (by decide) (fun c9 => ?_) (fun c9 => ?_)
          · have h := ty_t h c9
            exact wjX5_word_133 X  _ _ _ _ _ _ _ h Y (lv_sub hl [3, 2, 1, 0] rfl)
          · have h := ty_f h c9
            refine lv_iload hx hb dX5_word_105 (lv_at hl 0 rfl) ?_
            refine lv_aload_n hx hb dX5_word_107 rfl (lv_at hl 3 rfl) ?_
            refine tg_X5_references X Y iX5_word_X5 kX5_word_4 dX5_word_108 ?_
            refine lv_iload hx hb dX5_word_111 (lv_at hl 2 rfl) ?_
            refine ty_iald (v := (S1 33 (S 39 (((16 : Int32) * x2) + x4).toNatClampNeg).toNatClampNeg)) X Y 4 640 33 rfl h.1 rfl dX5_word_113 ?_
            have h := h.2
            refine lv_icmp_ge (tgt := 133) hx hb dX5_word_114 (by decide) (fun c9 => ?_) (fun c9 => ?_)
            · have h := ty_t h c9
              exact wjX5_word_133 X  _ _ _ _ _ _ _ h Y (lv_sub hl [3, 2, 1, 0] rfl)
            · have h := ty_f h c9
              refine lv_aload_n hx hb dX5_word_117 rfl (lv_at hl 3 rfl) ?_
              refine tg_X5_to X Y iX5_word_X5 kX5_word_8 dX5_word_118 ?_
              refine lv_bipush (v := (12 : Int32)) hx hb dX5_word_121 (by decide) ?_
              refine lv_iload hx hb dX5_word_123 (lv_at hl 2 rfl) ?_
              refine lv_imul hx hb dX5_word_125 ?_
              refine lv_iload hx hb dX5_word_126 (lv_at hl 0 rfl) ?_
              refine lv_iadd hx hb dX5_word_128 ?_
              refine ty_iald (v := (S1 35 (((12 : Int32) * (S 39 (((16 : Int32) * x2) + x4).toNatClampNeg)) + ((x3 - (S 32 (S 39 (((16 : Int32) * x2) + x4).toNatClampNeg).toNatClampNeg)) - (2 : Int32))).toNatClampNeg)) X Y 6 7680 35 rfl h.1 rfl dX5_word_129 ?_
              have h := h.2
              refine lv_goto (tgt := 134) hx hb dX5_word_130 (by decide) ?_
              exact wjX5_word_134 X  _ _ _ _ _ _ _ _ h Y (lv_sub hl [3, 2, 1, 0] rfl)
def jX5_word_17 (K : ty_S → Int32 → Prop)  (x1 : Int32) (t0 : Int32) (S : ty_S) : Prop :=
  (if t0 ≤ (0 : Int32) then ∃ n9, lX5_word_42 K  n9 (x1 / (32 : Int32)) (x1 - x1 / (32 : Int32) * (32 : Int32)) (0 : Int32) (ty_st S 60 0 t0) else K (ty_st S 60 0 t0) (0 : Int32))
set_option maxHeartbeats 4000000 in
set_option maxRecDepth 100000 in
theorem wjX5_word_17 {p : Program} {l : Launch} {e : Env} {s : State} {m : MethodId} {args : Array Value} {below : List Frame} {meth : Method} {c : Code} {D : va_G} {cA : Nat → ClassId} {q : Nat → Nat} {K : ty_S → Int32 → Prop}  (X : ty_X D cA p s m args meth c cX5_word 9 (some .int) wsX5_word RX5)  (x1 : Int32) (t0 : Int32) (S : ty_S) (H : Heap) (locs : List Loc) (ls : Array Slot) (h : jX5_word_17 K  x1 t0 S) (Y : ty_Y D cA q ty_LM S s H locs) (hl : lv_has ls 9 [(0, .ref (q 0)), (1, .int x1)]) : W p l e rX5_word s m args below meth c H locs 0 0 (ty_MI D cA q ty_LM K below args s) (F0 m 17 ls [.int t0, .ref (q 0)]) := by
  have hx := X.1.1
  have hb := X.1.2.1
  unfold jX5_word_17 at h
  refine tp_X5_thrown X Y iX5_word_X5 kX5_word_0 dX5_word_17 (fun H locs Y => ?_)
  refine lv_aload_n hx hb dX5_word_20 rfl (lv_at hl 0 rfl) ?_
  refine tg_X5_thrown (v := t0) X Y iX5_word_X5 kX5_word_0 rfl dX5_word_21 ?_
  refine lv_if_le (tgt := 29) hx hb dX5_word_24 (by decide) (fun c9 => ?_) (fun c9 => ?_)
  · have h := ty_t h c9
    refine lv_iload_n hx hb dX5_word_29 rfl (lv_at hl 1 rfl) ?_
    refine lv_bipush (v := (32 : Int32)) hx hb dX5_word_30 (by decide) ?_
    refine lv_idiv hx hb dX5_word_32 (by decide) ?_
    refine lv_istore_n (lv' := [(2, .int (x1 / (32 : Int32))), (0, .ref (q 0)), (1, .int x1)]) hx hb dX5_word_33 rfl hl (by decide) rfl (fun ls hl => ?_)
    refine lv_iload_n hx hb dX5_word_34 rfl (lv_at hl 2 rfl) ?_
    refine lv_bipush (v := (32 : Int32)) hx hb dX5_word_35 (by decide) ?_
    refine lv_irem hx hb dX5_word_37 (by decide) ?_
    refine lv_istore_n (lv' := [(3, .int (x1 - x1 / (32 : Int32) * (32 : Int32))), (2, .int (x1 / (32 : Int32))), (0, .ref (q 0)), (1, .int x1)]) hx hb dX5_word_38 rfl hl (by decide) rfl (fun ls hl => ?_)
    refine lv_iconst (v := (0 : Int32)) hx hb dX5_word_39 (by decide) ?_
    refine lv_istore (lv' := [(4, .int (0 : Int32)), (3, .int (x1 - x1 / (32 : Int32) * (32 : Int32))), (2, .int (x1 / (32 : Int32))), (0, .ref (q 0)), (1, .int x1)]) hx hb dX5_word_40 hl (by decide) rfl (fun ls hl => ?_)
    obtain ⟨n9, h⟩ := h
    exact wlX5_word_42 X  n9 _ _ _ _ _ _ _ h Y (lv_sub hl [3, 2, 1, 0] rfl)
  · have h := ty_f h c9
    refine lv_iconst (v := (0 : Int32)) hx hb dX5_word_27 (by decide) ?_
    exact ty_iret X Y h dX5_word_28
def jX5_word_12 (K : ty_S → Int32 → Prop)  (x1 : Int32) (S : ty_S) : Prop :=
  jX5_word_17 K  x1 (1 : Int32) S
set_option maxHeartbeats 4000000 in
set_option maxRecDepth 100000 in
theorem wjX5_word_12 {p : Program} {l : Launch} {e : Env} {s : State} {m : MethodId} {args : Array Value} {below : List Frame} {meth : Method} {c : Code} {D : va_G} {cA : Nat → ClassId} {q : Nat → Nat} {K : ty_S → Int32 → Prop}  (X : ty_X D cA p s m args meth c cX5_word 9 (some .int) wsX5_word RX5)  (x1 : Int32) (S : ty_S) (H : Heap) (locs : List Loc) (ls : Array Slot) (h : jX5_word_12 K  x1 S) (Y : ty_Y D cA q ty_LM S s H locs) (hl : lv_has ls 9 [(0, .ref (q 0)), (1, .int x1)]) : W p l e rX5_word s m args below meth c H locs 0 0 (ty_MI D cA q ty_LM K below args s) (F0 m 12 ls [.ref (q 0)]) := by
  have hx := X.1.1
  have hb := X.1.2.1
  unfold jX5_word_12 at h
  refine lv_iconst (v := (1 : Int32)) hx hb dX5_word_12 (by decide) ?_
  refine lv_goto (tgt := 17) hx hb dX5_word_13 (by decide) ?_
  exact wjX5_word_17 X  _ _ _ _ _ _ h Y (lv_sub hl [0, 1] rfl)
def eX5_word (S : ty_S) (x1 : Int32) (K : ty_S → Int32 → Prop) : Prop :=
  (if x1 < (0 : Int32) then jX5_word_12 K  x1 S else (if x1 < (1280 : Int32) then jX5_word_17 K  x1 (0 : Int32) S else jX5_word_12 K  x1 S))
set_option maxHeartbeats 4000000 in
set_option maxRecDepth 100000 in
theorem cX5_word_C (l : Launch) (D : va_G) (cA : Nat → ClassId) (q : Nat → Nat) (S : ty_S) (x1 : Int32) (K : ty_S → Int32 → Prop) (h : eX5_word S x1 K) : ∀ sz, Met l yX5_word wsX5_word rX5_word (ty_Pc D cA q ty_LM S sz [.ref (q 0), .int x1]) (ty_Qi D cA q ty_LM sz K) 0 0 (ty_A q ty_LM.length sz) := by
  refine ty_ofM (ret := (some .int)) (maxL := 9) (cc := cX5_word) (own := RX5) (Qc := fun sz => ty_Qi D cA q ty_LM sz K) (by decide +kernel) rfl (Nat.le_of_ble_eq_true rfl) rfl ?_
  intro p e s m args below meth c ls X hl Y
  have hx := X.1.1
  have hb := X.1.2.1
  have hl : lv_has ls 9 [(0, .ref (q 0)), (1, .int x1)] := hl
  unfold eX5_word at h
  refine lv_aload_n hx hb dX5_word_0 rfl (lv_at hl 0 rfl) ?_
  refine lv_iload_n hx hb dX5_word_1 rfl (lv_at hl 1 rfl) ?_
  refine lv_if_lt (tgt := 12) hx hb dX5_word_2 (by decide) (fun c9 => ?_) (fun c9 => ?_)
  · have h := ty_t h c9
    exact wjX5_word_12 X  _ _ _ _ _ h Y (lv_sub hl [0, 1] rfl)
  · have h := ty_f h c9
    refine lv_iload_n hx hb dX5_word_5 rfl (lv_at hl 1 rfl) ?_
    refine lv_sipush (v := (1280 : Int32)) hx hb dX5_word_6 (by decide) ?_
    refine lv_icmp_lt (tgt := 16) hx hb dX5_word_9 (by decide) (fun c9 => ?_) (fun c9 => ?_)
    · have h := ty_t h c9
      refine lv_iconst (v := (0 : Int32)) hx hb dX5_word_16 (by decide) ?_
      exact wjX5_word_17 X  _ _ _ _ _ _ h Y (lv_sub hl [0, 1] rfl)
    · have h := ty_f h c9
      exact wjX5_word_12 X  _ _ _ _ _ h Y (lv_sub hl [0, 1] rfl)

abbrev rX5_reached : Room := { frames := 0, cells := 0, slots := 0, locals := 0 }
theorem kX5_reached_0 : Cond.fieldLink RX5 75 "TrainYardModel" "thrown" "I" ∈ wsX5_reached := ty_m 1 (by decide +kernel)
theorem kX5_reached_1 : Cond.fieldLink RX5 19 "TrainYardModel" "references" "[I" ∈ wsX5_reached := ty_m 5 (by decide +kernel)
theorem kX5_reached_2 : Cond.fieldLink RX5 59 "TrainYardModel" "queue" "[I" ∈ wsX5_reached := ty_m 4 (by decide +kernel)
theorem kX5_reached_3 : Cond.fieldLink RX5 25 "TrainYardModel" "to" "[I" ∈ wsX5_reached := ty_m 6 (by decide +kernel)
theorem kX5_reached_4 : Cond.fieldLink RX5 72 "TrainYardModel" "seen" "[Z" ∈ wsX5_reached := ty_m 2 (by decide +kernel)
theorem kX5_reached_5 : Cond.fieldLink RX5 49 "TrainYardModel" "register" "[I" ∈ wsX5_reached := ty_m 3 (by decide +kernel)
theorem iX5_reached_X5 : ∀ w ∈ wsX50, w ∈ wsX5_reached := ty_inp _ [7, 8, 9, 10, 11, 12, 13, 14, 15, 16, 17, 18, 19, 20, 21, 22, 23, 24, 25, 26, 27, 28, 29, 30, 31, 32, 33, 34, 35, 36, 37] (by decide +kernel)
def lX5_reached_89 (K : ty_S → Int32 → Prop) (R82 : Int32 → Int32 → ty_S → Prop) : Nat → Int32 → Int32 → Int32 → ty_S → Prop
  | 0, _, _, _, _ => False
  | n + 1, x1, x2, x3, S => (vp_in x2 640 ∧ (vp_in (S 44 x2.toNatClampNeg) 640 ∧ (if (S 33 (S 44 x2.toNatClampNeg).toNatClampNeg) ≤ x3 then R82 x1 (x2 + (1 : Int32)) S else (vp_in x2 640 ∧ (vp_in (((12 : Int32) * (S 44 x2.toNatClampNeg)) + x3) 7680 ∧ (if (S 35 (((12 : Int32) * (S 44 x2.toNatClampNeg)) + x3).toNatClampNeg) < (0 : Int32) then lX5_reached_89 K R82 n x1 x2 (x3 + (1 : Int32)) S else (vp_in (S 35 (((12 : Int32) * (S 44 x2.toNatClampNeg)) + x3).toNatClampNeg) 640 ∧ (if (S 48 (S 35 (((12 : Int32) * (S 44 x2.toNatClampNeg)) + x3).toNatClampNeg).toNatClampNeg) = (0 : Int32) then (vp_in (S 35 (((12 : Int32) * (S 44 x2.toNatClampNeg)) + x3).toNatClampNeg) 640 ∧ (vp_in x1 640 ∧ lX5_reached_89 K R82 n (x1 + (1 : Int32)) x2 (x3 + (1 : Int32)) (ty_st (ty_st S 48 (S 35 (((12 : Int32) * (S 44 x2.toNatClampNeg)) + x3).toNatClampNeg).toNatClampNeg (1 : Int32)) 44 x1.toNatClampNeg (S 35 (((12 : Int32) * (S 44 x2.toNatClampNeg)) + x3).toNatClampNeg)))) else lX5_reached_89 K R82 n x1 x2 (x3 + (1 : Int32)) S))))))))
set_option maxHeartbeats 4000000 in
set_option maxRecDepth 100000 in
theorem wlX5_reached_89 {p : Program} {l : Launch} {e : Env} {s : State} {m : MethodId} {args : Array Value} {below : List Frame} {meth : Method} {c : Code} {D : va_G} {cA : Nat → ClassId} {q : Nat → Nat} {K : ty_S → Int32 → Prop} {R82 : Int32 → Int32 → ty_S → Prop} (X : ty_X D cA p s m args meth c cX5_reached 5 (some .int) wsX5_reached RX5) (hR82 : ∀ (x1 : Int32) (x2 : Int32) (S : ty_S) (H : Heap) (locs : List Loc) (ls : Array Slot), R82 x1 x2 S → ty_Y D cA q ty_LM S s H locs → lv_has ls 5 [(0, .ref (q 0)), (1, .int x1), (2, .int x2)] → W p l e rX5_reached s m args below meth c H locs 0 0 (ty_MI D cA q ty_LM K below args s) (F0 m 82 ls [])) : ∀ (n : Nat) (x1 : Int32) (x2 : Int32) (x3 : Int32) (S : ty_S) (H : Heap) (locs : List Loc) (ls : Array Slot), lX5_reached_89 K R82 n x1 x2 x3 S → ty_Y D cA q ty_LM S s H locs → lv_has ls 5 [(0, .ref (q 0)), (1, .int x1), (2, .int x2), (3, .int x3)] → W p l e rX5_reached s m args below meth c H locs 0 0 (ty_MI D cA q ty_LM K below args s) (F0 m 89 ls []) := by
  have hx := X.1.1
  have hb := X.1.2.1
  intro n
  induction n with
  | zero =>
    intro x1 x2 x3 S H locs ls h
    exact False.elim h
  | succ n ih =>
    intro x1 x2 x3 S H locs ls h Y hl
    unfold lX5_reached_89 at h
    refine lv_iload_n hx hb dX5_reached_89 rfl (lv_at hl 3 rfl) ?_
    refine lv_aload_n hx hb dX5_reached_90 rfl (lv_at hl 0 rfl) ?_
    refine tg_X5_references X Y iX5_reached_X5 kX5_reached_1 dX5_reached_91 ?_
    refine lv_aload_n hx hb dX5_reached_94 rfl (lv_at hl 0 rfl) ?_
    refine tg_X5_queue X Y iX5_reached_X5 kX5_reached_2 dX5_reached_95 ?_
    refine lv_iload_n hx hb dX5_reached_98 rfl (lv_at hl 2 rfl) ?_
    refine ty_iald (v := (S 44 x2.toNatClampNeg)) X Y 15 640 44 rfl h.1 rfl dX5_reached_99 ?_
    have h := h.2
    refine ty_iald (v := (S 33 (S 44 x2.toNatClampNeg).toNatClampNeg)) X Y 4 640 33 rfl h.1 rfl dX5_reached_100 ?_
    have h := h.2
    refine lv_icmp_ge (tgt := 162) hx hb dX5_reached_101 (by decide) (fun c9 => ?_) (fun c9 => ?_)
    · have h := ty_t h c9
      refine lv_iinc (v := (x2 + (1 : Int32))) (lv' := [(2, .int (x2 + (1 : Int32))), (0, .ref (q 0)), (1, .int x1), (3, .int x3)]) hx hb dX5_reached_162 hl (k := 2) rfl rfl (by decide) rfl (fun ls hl => ?_)
      refine lv_goto (tgt := 82) hx hb dX5_reached_165 (by decide) ?_
      exact hR82 _ _ _ _ _ _ h Y (lv_sub hl [1, 2, 0] rfl)
    · have h := ty_f h c9
      refine lv_aload_n hx hb dX5_reached_104 rfl (lv_at hl 0 rfl) ?_
      refine tg_X5_to X Y iX5_reached_X5 kX5_reached_3 dX5_reached_105 ?_
      refine lv_bipush (v := (12 : Int32)) hx hb dX5_reached_108 (by decide) ?_
      refine lv_aload_n hx hb dX5_reached_110 rfl (lv_at hl 0 rfl) ?_
      refine tg_X5_queue X Y iX5_reached_X5 kX5_reached_2 dX5_reached_111 ?_
      refine lv_iload_n hx hb dX5_reached_114 rfl (lv_at hl 2 rfl) ?_
      refine ty_iald (v := (S 44 x2.toNatClampNeg)) X Y 15 640 44 rfl h.1 rfl dX5_reached_115 ?_
      have h := h.2
      refine lv_imul hx hb dX5_reached_116 ?_
      refine lv_iload_n hx hb dX5_reached_117 rfl (lv_at hl 3 rfl) ?_
      refine lv_iadd hx hb dX5_reached_118 ?_
      refine ty_iald (v := (S 35 (((12 : Int32) * (S 44 x2.toNatClampNeg)) + x3).toNatClampNeg)) X Y 6 7680 35 rfl h.1 rfl dX5_reached_119 ?_
      have h := h.2
      refine lv_istore (lv' := [(4, .int (S 35 (((12 : Int32) * (S 44 x2.toNatClampNeg)) + x3).toNatClampNeg)), (0, .ref (q 0)), (1, .int x1), (2, .int x2), (3, .int x3)]) hx hb dX5_reached_120 hl (by decide) rfl (fun ls hl => ?_)
      refine lv_iload hx hb dX5_reached_122 (lv_at hl 0 rfl) ?_
      refine lv_if_lt (tgt := 156) hx hb dX5_reached_124 (by decide) (fun c9 => ?_) (fun c9 => ?_)
      · have h := ty_t h c9
        refine lv_iinc (v := (x3 + (1 : Int32))) (lv' := [(3, .int (x3 + (1 : Int32))), (4, .int (S 35 (((12 : Int32) * (S 44 x2.toNatClampNeg)) + x3).toNatClampNeg)), (0, .ref (q 0)), (1, .int x1), (2, .int x2)]) hx hb dX5_reached_156 hl (k := 4) rfl rfl (by decide) rfl (fun ls hl => ?_)
        refine lv_goto (tgt := 89) hx hb dX5_reached_159 (by decide) ?_
        exact ih _ _ _ _ _ _ _ h Y (lv_sub hl [2, 3, 4, 0] rfl)
      · have h := ty_f h c9
        refine lv_aload_n hx hb dX5_reached_127 rfl (lv_at hl 1 rfl) ?_
        refine tg_X5_seen X Y iX5_reached_X5 kX5_reached_4 dX5_reached_128 ?_
        refine lv_iload hx hb dX5_reached_131 (lv_at hl 0 rfl) ?_
        refine ty_zald (v := (S 48 (S 35 (((12 : Int32) * (S 44 x2.toNatClampNeg)) + x3).toNatClampNeg).toNatClampNeg)) X Y 19 640 48 rfl h.1 rfl dX5_reached_133 ?_
        have h := h.2
        refine lv_if_ne (tgt := 156) hx hb dX5_reached_134 (by decide) (fun c9 => ?_) (fun c9 => ?_)
        · have h := ty_f h c9
          refine lv_iinc (v := (x3 + (1 : Int32))) (lv' := [(3, .int (x3 + (1 : Int32))), (4, .int (S 35 (((12 : Int32) * (S 44 x2.toNatClampNeg)) + x3).toNatClampNeg)), (0, .ref (q 0)), (1, .int x1), (2, .int x2)]) hx hb dX5_reached_156 hl (k := 4) rfl rfl (by decide) rfl (fun ls hl => ?_)
          refine lv_goto (tgt := 89) hx hb dX5_reached_159 (by decide) ?_
          exact ih _ _ _ _ _ _ _ h Y (lv_sub hl [2, 3, 4, 0] rfl)
        · have h := ty_t h c9
          refine lv_aload_n hx hb dX5_reached_137 rfl (lv_at hl 1 rfl) ?_
          refine tg_X5_seen X Y iX5_reached_X5 kX5_reached_4 dX5_reached_138 ?_
          refine lv_iload hx hb dX5_reached_141 (lv_at hl 0 rfl) ?_
          refine lv_iconst (v := (1 : Int32)) hx hb dX5_reached_143 (by decide) ?_
          refine ty_zast X Y 19 640 48 rfl (by decide) h.1 rfl dX5_reached_144 (fun H locs Y => ?_)
          have h := h.2
          refine lv_aload_n hx hb dX5_reached_145 rfl (lv_at hl 1 rfl) ?_
          refine tg_X5_queue X Y iX5_reached_X5 kX5_reached_2 dX5_reached_146 ?_
          refine lv_iload_n hx hb dX5_reached_149 rfl (lv_at hl 2 rfl) ?_
          refine lv_iload hx hb dX5_reached_150 (lv_at hl 0 rfl) ?_
          refine ty_iast X Y 15 640 44 rfl (by decide) h.1 dX5_reached_152 (fun H locs Y => ?_)
          have h := h.2
          refine lv_iinc (v := (x1 + (1 : Int32))) (lv' := [(1, .int (x1 + (1 : Int32))), (4, .int (S 35 (((12 : Int32) * (S 44 x2.toNatClampNeg)) + x3).toNatClampNeg)), (0, .ref (q 0)), (2, .int x2), (3, .int x3)]) hx hb dX5_reached_153 hl (k := 2) rfl rfl (by decide) rfl (fun ls hl => ?_)
          refine lv_iinc (v := (x3 + (1 : Int32))) (lv' := [(3, .int (x3 + (1 : Int32))), (1, .int (x1 + (1 : Int32))), (4, .int (S 35 (((12 : Int32) * (S 44 x2.toNatClampNeg)) + x3).toNatClampNeg)), (0, .ref (q 0)), (2, .int x2)]) hx hb dX5_reached_156 hl (k := 4) rfl rfl (by decide) rfl (fun ls hl => ?_)
          refine lv_goto (tgt := 89) hx hb dX5_reached_159 (by decide) ?_
          exact ih _ _ _ _ _ _ _ h Y (lv_sub hl [3, 1, 4, 0] rfl)
def lX5_reached_82 (K : ty_S → Int32 → Prop)  : Nat → Int32 → Int32 → ty_S → Prop
  | 0, _, _, _ => False
  | n + 1, x1, x2, S => (if x1 ≤ x2 then K S x1 else ∃ n9, lX5_reached_89 K (fun a0 a1 S9 => lX5_reached_82 K  n a0 a1 S9) n9 x1 x2 (0 : Int32) S)
set_option maxHeartbeats 4000000 in
set_option maxRecDepth 100000 in
theorem wlX5_reached_82 {p : Program} {l : Launch} {e : Env} {s : State} {m : MethodId} {args : Array Value} {below : List Frame} {meth : Method} {c : Code} {D : va_G} {cA : Nat → ClassId} {q : Nat → Nat} {K : ty_S → Int32 → Prop}  (X : ty_X D cA p s m args meth c cX5_reached 5 (some .int) wsX5_reached RX5)  : ∀ (n : Nat) (x1 : Int32) (x2 : Int32) (S : ty_S) (H : Heap) (locs : List Loc) (ls : Array Slot), lX5_reached_82 K  n x1 x2 S → ty_Y D cA q ty_LM S s H locs → lv_has ls 5 [(0, .ref (q 0)), (1, .int x1), (2, .int x2)] → W p l e rX5_reached s m args below meth c H locs 0 0 (ty_MI D cA q ty_LM K below args s) (F0 m 82 ls []) := by
  have hx := X.1.1
  have hb := X.1.2.1
  intro n
  induction n with
  | zero =>
    intro x1 x2 S H locs ls h
    exact False.elim h
  | succ n ih =>
    intro x1 x2 S H locs ls h Y hl
    unfold lX5_reached_82 at h
    refine lv_iload_n hx hb dX5_reached_82 rfl (lv_at hl 2 rfl) ?_
    refine lv_iload_n hx hb dX5_reached_83 rfl (lv_at hl 1 rfl) ?_
    refine lv_icmp_ge (tgt := 168) hx hb dX5_reached_84 (by decide) (fun c9 => ?_) (fun c9 => ?_)
    · have h := ty_t h c9
      refine lv_iload_n hx hb dX5_reached_168 rfl (lv_at hl 1 rfl) ?_
      exact ty_iret X Y h dX5_reached_169
    · have h := ty_f h c9
      refine lv_iconst (v := (0 : Int32)) hx hb dX5_reached_87 (by decide) ?_
      refine lv_istore_n (lv' := [(3, .int (0 : Int32)), (0, .ref (q 0)), (1, .int x1), (2, .int x2)]) hx hb dX5_reached_88 rfl hl (by decide) rfl (fun ls hl => ?_)
      obtain ⟨n9, h⟩ := h
      exact wlX5_reached_89 X ih n9 _ _ _ _ _ _ _ h Y (lv_sub hl [1, 2, 3, 0] rfl)
def lX5_reached_31 (K : ty_S → Int32 → Prop)  : Nat → Int32 → Int32 → ty_S → Prop
  | 0, _, _, _ => False
  | n + 1, x1, x2, S => (if (16 : Int32) ≤ x2 then ∃ n9, lX5_reached_82 K  n9 x1 (0 : Int32) S else (vp_in x2 16 ∧ (if (S 43 x2.toNatClampNeg) < (0 : Int32) then lX5_reached_31 K  n x1 (x2 + (1 : Int32)) S else (vp_in (S 43 x2.toNatClampNeg) 640 ∧ (if (S 48 (S 43 x2.toNatClampNeg).toNatClampNeg) = (0 : Int32) then (vp_in (S 43 x2.toNatClampNeg) 640 ∧ (vp_in x1 640 ∧ lX5_reached_31 K  n (x1 + (1 : Int32)) (x2 + (1 : Int32)) (ty_st (ty_st S 48 (S 43 x2.toNatClampNeg).toNatClampNeg (1 : Int32)) 44 x1.toNatClampNeg (S 43 x2.toNatClampNeg)))) else lX5_reached_31 K  n x1 (x2 + (1 : Int32)) S)))))
set_option maxHeartbeats 4000000 in
set_option maxRecDepth 100000 in
theorem wlX5_reached_31 {p : Program} {l : Launch} {e : Env} {s : State} {m : MethodId} {args : Array Value} {below : List Frame} {meth : Method} {c : Code} {D : va_G} {cA : Nat → ClassId} {q : Nat → Nat} {K : ty_S → Int32 → Prop}  (X : ty_X D cA p s m args meth c cX5_reached 5 (some .int) wsX5_reached RX5)  : ∀ (n : Nat) (x1 : Int32) (x2 : Int32) (S : ty_S) (H : Heap) (locs : List Loc) (ls : Array Slot), lX5_reached_31 K  n x1 x2 S → ty_Y D cA q ty_LM S s H locs → lv_has ls 5 [(0, .ref (q 0)), (1, .int x1), (2, .int x2)] → W p l e rX5_reached s m args below meth c H locs 0 0 (ty_MI D cA q ty_LM K below args s) (F0 m 31 ls []) := by
  have hx := X.1.1
  have hb := X.1.2.1
  intro n
  induction n with
  | zero =>
    intro x1 x2 S H locs ls h
    exact False.elim h
  | succ n ih =>
    intro x1 x2 S H locs ls h Y hl
    unfold lX5_reached_31 at h
    refine lv_iload_n hx hb dX5_reached_31 rfl (lv_at hl 2 rfl) ?_
    refine lv_bipush (v := (16 : Int32)) hx hb dX5_reached_32 (by decide) ?_
    refine lv_icmp_ge (tgt := 80) hx hb dX5_reached_34 (by decide) (fun c9 => ?_) (fun c9 => ?_)
    · have h := ty_t h c9
      refine lv_iconst (v := (0 : Int32)) hx hb dX5_reached_80 (by decide) ?_
      refine lv_istore_n (lv' := [(2, .int (0 : Int32)), (0, .ref (q 0)), (1, .int x1)]) hx hb dX5_reached_81 rfl hl (by decide) rfl (fun ls hl => ?_)
      obtain ⟨n9, h⟩ := h
      exact wlX5_reached_82 X  n9 _ _ _ _ _ _ h Y (lv_sub hl [1, 2, 0] rfl)
    · have h := ty_f h c9
      refine lv_aload_n hx hb dX5_reached_37 rfl (lv_at hl 0 rfl) ?_
      refine tg_X5_register X Y iX5_reached_X5 kX5_reached_5 dX5_reached_38 ?_
      refine lv_iload_n hx hb dX5_reached_41 rfl (lv_at hl 2 rfl) ?_
      refine ty_iald (v := (S 43 x2.toNatClampNeg)) X Y 14 16 43 rfl h.1 rfl dX5_reached_42 ?_
      have h := h.2
      refine lv_istore_n (lv' := [(3, .int (S 43 x2.toNatClampNeg)), (0, .ref (q 0)), (1, .int x1), (2, .int x2)]) hx hb dX5_reached_43 rfl hl (by decide) rfl (fun ls hl => ?_)
      refine lv_iload_n hx hb dX5_reached_44 rfl (lv_at hl 0 rfl) ?_
      refine lv_if_lt (tgt := 74) hx hb dX5_reached_45 (by decide) (fun c9 => ?_) (fun c9 => ?_)
      · have h := ty_t h c9
        refine lv_iinc (v := (x2 + (1 : Int32))) (lv' := [(2, .int (x2 + (1 : Int32))), (3, .int (S 43 x2.toNatClampNeg)), (0, .ref (q 0)), (1, .int x1)]) hx hb dX5_reached_74 hl (k := 3) rfl rfl (by decide) rfl (fun ls hl => ?_)
        refine lv_goto (tgt := 31) hx hb dX5_reached_77 (by decide) ?_
        exact ih _ _ _ _ _ _ h Y (lv_sub hl [2, 3, 0] rfl)
      · have h := ty_f h c9
        refine lv_aload_n hx hb dX5_reached_48 rfl (lv_at hl 1 rfl) ?_
        refine tg_X5_seen X Y iX5_reached_X5 kX5_reached_4 dX5_reached_49 ?_
        refine lv_iload_n hx hb dX5_reached_52 rfl (lv_at hl 0 rfl) ?_
        refine ty_zald (v := (S 48 (S 43 x2.toNatClampNeg).toNatClampNeg)) X Y 19 640 48 rfl h.1 rfl dX5_reached_53 ?_
        have h := h.2
        refine lv_if_ne (tgt := 74) hx hb dX5_reached_54 (by decide) (fun c9 => ?_) (fun c9 => ?_)
        · have h := ty_f h c9
          refine lv_iinc (v := (x2 + (1 : Int32))) (lv' := [(2, .int (x2 + (1 : Int32))), (3, .int (S 43 x2.toNatClampNeg)), (0, .ref (q 0)), (1, .int x1)]) hx hb dX5_reached_74 hl (k := 3) rfl rfl (by decide) rfl (fun ls hl => ?_)
          refine lv_goto (tgt := 31) hx hb dX5_reached_77 (by decide) ?_
          exact ih _ _ _ _ _ _ h Y (lv_sub hl [2, 3, 0] rfl)
        · have h := ty_t h c9
          refine lv_aload_n hx hb dX5_reached_57 rfl (lv_at hl 1 rfl) ?_
          refine tg_X5_seen X Y iX5_reached_X5 kX5_reached_4 dX5_reached_58 ?_
          refine lv_iload_n hx hb dX5_reached_61 rfl (lv_at hl 0 rfl) ?_
          refine lv_iconst (v := (1 : Int32)) hx hb dX5_reached_62 (by decide) ?_
          refine ty_zast X Y 19 640 48 rfl (by decide) h.1 rfl dX5_reached_63 (fun H locs Y => ?_)
          have h := h.2
          refine lv_aload_n hx hb dX5_reached_64 rfl (lv_at hl 1 rfl) ?_
          refine tg_X5_queue X Y iX5_reached_X5 kX5_reached_2 dX5_reached_65 ?_
          refine lv_iload_n hx hb dX5_reached_68 rfl (lv_at hl 2 rfl) ?_
          refine lv_iload_n hx hb dX5_reached_69 rfl (lv_at hl 0 rfl) ?_
          refine ty_iast X Y 15 640 44 rfl (by decide) h.1 dX5_reached_70 (fun H locs Y => ?_)
          have h := h.2
          refine lv_iinc (v := (x1 + (1 : Int32))) (lv' := [(1, .int (x1 + (1 : Int32))), (3, .int (S 43 x2.toNatClampNeg)), (0, .ref (q 0)), (2, .int x2)]) hx hb dX5_reached_71 hl (k := 2) rfl rfl (by decide) rfl (fun ls hl => ?_)
          refine lv_iinc (v := (x2 + (1 : Int32))) (lv' := [(2, .int (x2 + (1 : Int32))), (1, .int (x1 + (1 : Int32))), (3, .int (S 43 x2.toNatClampNeg)), (0, .ref (q 0))]) hx hb dX5_reached_74 hl (k := 3) rfl rfl (by decide) rfl (fun ls hl => ?_)
          refine lv_goto (tgt := 31) hx hb dX5_reached_77 (by decide) ?_
          exact ih _ _ _ _ _ _ h Y (lv_sub hl [3, 1, 0] rfl)
def lX5_reached_9 (K : ty_S → Int32 → Prop)  : Nat → Int32 → Int32 → ty_S → Prop
  | 0, _, _, _ => False
  | n + 1, x1, x2, S => (if (640 : Int32) ≤ x2 then ∃ n9, lX5_reached_31 K  n9 x1 (0 : Int32) S else (vp_in x2 640 ∧ lX5_reached_9 K  n x1 (x2 + (1 : Int32)) (ty_st S 48 x2.toNatClampNeg (0 : Int32))))
set_option maxHeartbeats 4000000 in
set_option maxRecDepth 100000 in
theorem wlX5_reached_9 {p : Program} {l : Launch} {e : Env} {s : State} {m : MethodId} {args : Array Value} {below : List Frame} {meth : Method} {c : Code} {D : va_G} {cA : Nat → ClassId} {q : Nat → Nat} {K : ty_S → Int32 → Prop}  (X : ty_X D cA p s m args meth c cX5_reached 5 (some .int) wsX5_reached RX5)  : ∀ (n : Nat) (x1 : Int32) (x2 : Int32) (S : ty_S) (H : Heap) (locs : List Loc) (ls : Array Slot), lX5_reached_9 K  n x1 x2 S → ty_Y D cA q ty_LM S s H locs → lv_has ls 5 [(0, .ref (q 0)), (1, .int x1), (2, .int x2)] → W p l e rX5_reached s m args below meth c H locs 0 0 (ty_MI D cA q ty_LM K below args s) (F0 m 9 ls []) := by
  have hx := X.1.1
  have hb := X.1.2.1
  intro n
  induction n with
  | zero =>
    intro x1 x2 S H locs ls h
    exact False.elim h
  | succ n ih =>
    intro x1 x2 S H locs ls h Y hl
    unfold lX5_reached_9 at h
    refine lv_iload_n hx hb dX5_reached_9 rfl (lv_at hl 2 rfl) ?_
    refine lv_sipush (v := (640 : Int32)) hx hb dX5_reached_10 (by decide) ?_
    refine lv_icmp_ge (tgt := 29) hx hb dX5_reached_13 (by decide) (fun c9 => ?_) (fun c9 => ?_)
    · have h := ty_t h c9
      refine lv_iconst (v := (0 : Int32)) hx hb dX5_reached_29 (by decide) ?_
      refine lv_istore_n (lv' := [(2, .int (0 : Int32)), (0, .ref (q 0)), (1, .int x1)]) hx hb dX5_reached_30 rfl hl (by decide) rfl (fun ls hl => ?_)
      obtain ⟨n9, h⟩ := h
      exact wlX5_reached_31 X  n9 _ _ _ _ _ _ h Y (lv_sub hl [1, 2, 0] rfl)
    · have h := ty_f h c9
      refine lv_aload_n hx hb dX5_reached_16 rfl (lv_at hl 0 rfl) ?_
      refine tg_X5_seen X Y iX5_reached_X5 kX5_reached_4 dX5_reached_17 ?_
      refine lv_iload_n hx hb dX5_reached_20 rfl (lv_at hl 2 rfl) ?_
      refine lv_iconst (v := (0 : Int32)) hx hb dX5_reached_21 (by decide) ?_
      refine ty_zast X Y 19 640 48 rfl (by decide) h.1 rfl dX5_reached_22 (fun H locs Y => ?_)
      have h := h.2
      refine lv_iinc (v := (x2 + (1 : Int32))) (lv' := [(2, .int (x2 + (1 : Int32))), (0, .ref (q 0)), (1, .int x1)]) hx hb dX5_reached_23 hl (k := 2) rfl rfl (by decide) rfl (fun ls hl => ?_)
      refine lv_goto (tgt := 9) hx hb dX5_reached_26 (by decide) ?_
      exact ih _ _ _ _ _ _ h Y (lv_sub hl [1, 2, 0] rfl)
def eX5_reached (S : ty_S)  (K : ty_S → Int32 → Prop) : Prop :=
  ∃ n9, lX5_reached_9 K  n9 (0 : Int32) (0 : Int32) (ty_st S 60 0 (0 : Int32))
set_option maxHeartbeats 4000000 in
set_option maxRecDepth 100000 in
theorem cX5_reached_C (l : Launch) (D : va_G) (cA : Nat → ClassId) (q : Nat → Nat) (S : ty_S)  (K : ty_S → Int32 → Prop) (h : eX5_reached S  K) : ∀ sz, Met l yX5_reached wsX5_reached rX5_reached (ty_Pc D cA q ty_LM S sz [.ref (q 0)]) (ty_Qi D cA q ty_LM sz K) 0 0 (ty_A q ty_LM.length sz) := by
  refine ty_ofM (ret := (some .int)) (maxL := 5) (cc := cX5_reached) (own := RX5) (Qc := fun sz => ty_Qi D cA q ty_LM sz K) (by decide +kernel) rfl (Nat.le_of_ble_eq_true rfl) rfl ?_
  intro p e s m args below meth c ls X hl Y
  have hx := X.1.1
  have hb := X.1.2.1
  have hl : lv_has ls 5 [(0, .ref (q 0))] := hl
  unfold eX5_reached at h
  refine lv_aload_n hx hb dX5_reached_0 rfl (lv_at hl 0 rfl) ?_
  refine lv_iconst (v := (0 : Int32)) hx hb dX5_reached_1 (by decide) ?_
  refine tp_X5_thrown X Y iX5_reached_X5 kX5_reached_0 dX5_reached_2 (fun H locs Y => ?_)
  refine lv_iconst (v := (0 : Int32)) hx hb dX5_reached_5 (by decide) ?_
  refine lv_istore_n (lv' := [(1, .int (0 : Int32)), (0, .ref (q 0))]) hx hb dX5_reached_6 rfl hl (by decide) rfl (fun ls hl => ?_)
  refine lv_iconst (v := (0 : Int32)) hx hb dX5_reached_7 (by decide) ?_
  refine lv_istore_n (lv' := [(2, .int (0 : Int32)), (1, .int (0 : Int32)), (0, .ref (q 0))]) hx hb dX5_reached_8 rfl hl (by decide) rfl (fun ls hl => ?_)
  obtain ⟨n9, h⟩ := h
  exact wlX5_reached_9 X  n9 _ _ _ _ _ _ h Y (lv_sub hl [2, 1, 0] rfl)

abbrev rX5_told : Room := { frames := 1, cells := 0, slots := 0, locals := 22 }
theorem kX5_told_0 : Cond.fieldLink RX5 75 "TrainYardModel" "thrown" "I" ∈ wsX5_told := ty_m 1 (by decide +kernel)
theorem kX5_told_1 : Cond.fieldLink RX5 78 "TrainYardModel" "trains" "I" ∈ wsX5_told := ty_m 3 (by decide +kernel)
theorem kX5_told_2 : Cond.fieldLink RX5 135 "TrainYardModel" "steps" "I" ∈ wsX5_told := ty_m 4 (by decide +kernel)
theorem kX5_told_3 : Cond.fieldLink RX5 145 "TrainYardModel" "whole" "I" ∈ wsX5_told := ty_m 5 (by decide +kernel)
theorem kX5_told_4 : Cond.fieldLink RX5 132 "TrainYardModel" "gone" "I" ∈ wsX5_told := ty_m 6 (by decide +kernel)
theorem kX5_told_5 : Cond.fieldLink RX5 116 "TrainYardModel" "moved" "I" ∈ wsX5_told := ty_m 7 (by decide +kernel)
theorem kX5_told_6 : Cond.fieldLink RX5 119 "TrainYardModel" "movedWords" "I" ∈ wsX5_told := ty_m 8 (by decide +kernel)
theorem kX5_told_7 : Cond.fieldLink RX5 89 "TrainYardModel" "made" "I" ∈ wsX5_told := ty_m 9 (by decide +kernel)
theorem kX5_told_8 : Cond.fieldLink RX5 176 "TrainYardModel" "labels" "I" ∈ wsX5_told := ty_m 10 (by decide +kernel)
theorem kX5_told_9 : Cond.fieldLink RX5 7 "TrainYardModel" "label" "[I" ∈ wsX5_told := ty_m 2 (by decide +kernel)
theorem iX5_told_X5 : ∀ w ∈ wsX50, w ∈ wsX5_told := ty_inp _ [17, 18, 19, 20, 21, 22, 23, 24, 25, 26, 27, 28, 29, 30, 31, 32, 33, 34, 35, 36, 37, 38, 39, 40, 41, 42, 43, 44, 45, 46, 47] (by decide +kernel)
def lX5_told_32 (K : ty_S → Int32 → Prop)  : Nat → Int32 → Int32 → Int32 → ty_S → Prop
  | 0, _, _, _, _ => False
  | n + 1, x1, x2, x3, S => (if (640 : Int32) ≤ x3 then (if x1 = (0 : Int32) then K S (S 50 0) else (if x1 = (1 : Int32) then (eX5_freeCars S  (fun S1 r1 => K S1 r1)) else (if x1 = (2 : Int32) then K S x2 else (if x1 = (3 : Int32) then K S (S 52 0) else (if x1 = (4 : Int32) then K S (S 53 0) else (if x1 = (5 : Int32) then K S (S 54 0) else (if x1 = (6 : Int32) then K S (S 55 0) else (if x1 = (7 : Int32) then K S (S 56 0) else (if x1 = (8 : Int32) then K S (S 57 0) else K S (S 58 0)))))))))) else (vp_in x3 640 ∧ (if (S 30 x3.toNatClampNeg) ≤ (0 : Int32) then lX5_told_32 K  n x1 (x2 + (0 : Int32)) (x3 + (1 : Int32)) S else lX5_told_32 K  n x1 (x2 + (1 : Int32)) (x3 + (1 : Int32)) S)))
set_option maxHeartbeats 4000000 in
set_option maxRecDepth 100000 in
theorem wlX5_told_32 {p : Program} {l : Launch} {e : Env} {s : State} {m : MethodId} {args : Array Value} {below : List Frame} {meth : Method} {c : Code} {D : va_G} {cA : Nat → ClassId} {q : Nat → Nat} {K : ty_S → Int32 → Prop}  (X : ty_X D cA p s m args meth c cX5_told 4 (some .int) wsX5_told RX5)  : ∀ (n : Nat) (x1 : Int32) (x2 : Int32) (x3 : Int32) (S : ty_S) (H : Heap) (locs : List Loc) (ls : Array Slot), lX5_told_32 K  n x1 x2 x3 S → ty_Y D cA q ty_LM S s H locs → lv_has ls 4 [(0, .ref (q 0)), (1, .int x1), (2, .int x2), (3, .int x3)] → W p l e rX5_told s m args below meth c H locs 0 0 (ty_MI D cA q ty_LM K below args s) (F0 m 32 ls []) := by
  have hx := X.1.1
  have hb := X.1.2.1
  intro n
  induction n with
  | zero =>
    intro x1 x2 x3 S H locs ls h
    exact False.elim h
  | succ n ih =>
    intro x1 x2 x3 S H locs ls h Y hl
    unfold lX5_told_32 at h
    refine lv_iload_n hx hb dX5_told_32 rfl (lv_at hl 3 rfl) ?_
    refine lv_sipush (v := (640 : Int32)) hx hb dX5_told_33 (by decide) ?_
    refine lv_icmp_ge (tgt := 62) hx hb dX5_told_36 (by decide) (fun c9 => ?_) (fun c9 => ?_)
    · have h := ty_t h c9
      refine lv_iload_n hx hb dX5_told_62 rfl (lv_at hl 1 rfl) ?_
      rcases Decidable.em (x1 = (0 : Int32)) with c0 | c0
      · have h := ty_t h c0
        refine lv_tableIn (tgt := 112) hx hb dX5_told_63 (by rw [c0]; decide) (by rw [c0]; decide) (by rw [c0]; exact rfl) (by decide) ?_
        refine lv_aload_n hx hb dX5_told_112 rfl (lv_at hl 0 rfl) ?_
        refine tg_X5_trains (v := (S 50 0)) X Y iX5_told_X5 kX5_told_1 rfl dX5_told_113 ?_
        exact ty_iret X Y h dX5_told_116
      · have h := ty_f h c0
        rcases Decidable.em (x1 = (1 : Int32)) with c1 | c1
        · have h := ty_t h c1
          refine lv_tableIn (tgt := 117) hx hb dX5_told_63 (by rw [c1]; decide) (by rw [c1]; decide) (by rw [c1]; exact rfl) (by decide) ?_
          refine lv_aload_n hx hb dX5_told_117 rfl (lv_at hl 0 rfl) ?_
          refine ty_Vi (As := []) (b := 0) (rest := []) X Y (cX5_freeCars_C l D cA q S  _ h) rfl rfl (fun hts => cwV 0 hts gX5_told_X5_freeCars rfl rfl rfl (by decide +kernel) ⟨Nat.le_of_ble_eq_true rfl, Nat.le_of_ble_eq_true rfl⟩) rfl hl.1 (Nat.le_of_ble_eq_true rfl) dX5_told_118 ⟨Nat.zero_le _, Nat.zero_le _⟩ (fun r1 S1 H locs h Y => ?_)
          exact ty_iret X Y h dX5_told_121
        · have h := ty_f h c1
          rcases Decidable.em (x1 = (2 : Int32)) with c2 | c2
          · have h := ty_t h c2
            refine lv_tableIn (tgt := 122) hx hb dX5_told_63 (by rw [c2]; decide) (by rw [c2]; decide) (by rw [c2]; exact rfl) (by decide) ?_
            refine lv_iload_n hx hb dX5_told_122 rfl (lv_at hl 2 rfl) ?_
            exact ty_iret X Y h dX5_told_123
          · have h := ty_f h c2
            rcases Decidable.em (x1 = (3 : Int32)) with c3 | c3
            · have h := ty_t h c3
              refine lv_tableIn (tgt := 124) hx hb dX5_told_63 (by rw [c3]; decide) (by rw [c3]; decide) (by rw [c3]; exact rfl) (by decide) ?_
              refine lv_aload_n hx hb dX5_told_124 rfl (lv_at hl 0 rfl) ?_
              refine tg_X5_steps (v := (S 52 0)) X Y iX5_told_X5 kX5_told_2 rfl dX5_told_125 ?_
              exact ty_iret X Y h dX5_told_128
            · have h := ty_f h c3
              rcases Decidable.em (x1 = (4 : Int32)) with c4 | c4
              · have h := ty_t h c4
                refine lv_tableIn (tgt := 129) hx hb dX5_told_63 (by rw [c4]; decide) (by rw [c4]; decide) (by rw [c4]; exact rfl) (by decide) ?_
                refine lv_aload_n hx hb dX5_told_129 rfl (lv_at hl 0 rfl) ?_
                refine tg_X5_whole (v := (S 53 0)) X Y iX5_told_X5 kX5_told_3 rfl dX5_told_130 ?_
                exact ty_iret X Y h dX5_told_133
              · have h := ty_f h c4
                rcases Decidable.em (x1 = (5 : Int32)) with c5 | c5
                · have h := ty_t h c5
                  refine lv_tableIn (tgt := 134) hx hb dX5_told_63 (by rw [c5]; decide) (by rw [c5]; decide) (by rw [c5]; exact rfl) (by decide) ?_
                  refine lv_aload_n hx hb dX5_told_134 rfl (lv_at hl 0 rfl) ?_
                  refine tg_X5_gone (v := (S 54 0)) X Y iX5_told_X5 kX5_told_4 rfl dX5_told_135 ?_
                  exact ty_iret X Y h dX5_told_138
                · have h := ty_f h c5
                  rcases Decidable.em (x1 = (6 : Int32)) with c6 | c6
                  · have h := ty_t h c6
                    refine lv_tableIn (tgt := 139) hx hb dX5_told_63 (by rw [c6]; decide) (by rw [c6]; decide) (by rw [c6]; exact rfl) (by decide) ?_
                    refine lv_aload_n hx hb dX5_told_139 rfl (lv_at hl 0 rfl) ?_
                    refine tg_X5_moved (v := (S 55 0)) X Y iX5_told_X5 kX5_told_5 rfl dX5_told_140 ?_
                    exact ty_iret X Y h dX5_told_143
                  · have h := ty_f h c6
                    rcases Decidable.em (x1 = (7 : Int32)) with c7 | c7
                    · have h := ty_t h c7
                      refine lv_tableIn (tgt := 144) hx hb dX5_told_63 (by rw [c7]; decide) (by rw [c7]; decide) (by rw [c7]; exact rfl) (by decide) ?_
                      refine lv_aload_n hx hb dX5_told_144 rfl (lv_at hl 0 rfl) ?_
                      refine tg_X5_movedWords (v := (S 56 0)) X Y iX5_told_X5 kX5_told_6 rfl dX5_told_145 ?_
                      exact ty_iret X Y h dX5_told_148
                    · have h := ty_f h c7
                      rcases Decidable.em (x1 = (8 : Int32)) with c8 | c8
                      · have h := ty_t h c8
                        refine lv_tableIn (tgt := 149) hx hb dX5_told_63 (by rw [c8]; decide) (by rw [c8]; decide) (by rw [c8]; exact rfl) (by decide) ?_
                        refine lv_aload_n hx hb dX5_told_149 rfl (lv_at hl 0 rfl) ?_
                        refine tg_X5_made (v := (S 57 0)) X Y iX5_told_X5 kX5_told_7 rfl dX5_told_150 ?_
                        exact ty_iret X Y h dX5_told_153
                      · have h := ty_f h c8
                        refine lv_tableOut (tgt := 154) hx hb dX5_told_63 (ty_out (fun k h1 h2 => ?_)) (by decide) ?_
                        · have hk : k = 0 ∨ k = 1 ∨ k = 2 ∨ k = 3 ∨ k = 4 ∨ k = 5 ∨ k = 6 ∨ k = 7 ∨ k = 8 := by omega
                          rcases hk with rfl | rfl | rfl | rfl | rfl | rfl | rfl | rfl | rfl
                          · exact c0
                          · exact c1
                          · exact c2
                          · exact c3
                          · exact c4
                          · exact c5
                          · exact c6
                          · exact c7
                          · exact c8
                        · refine lv_aload_n hx hb dX5_told_154 rfl (lv_at hl 0 rfl) ?_
                          refine tg_X5_labels (v := (S 58 0)) X Y iX5_told_X5 kX5_told_8 rfl dX5_told_155 ?_
                          exact ty_iret X Y h dX5_told_158
    · have h := ty_f h c9
      refine lv_iload_n hx hb dX5_told_39 rfl (lv_at hl 2 rfl) ?_
      refine lv_aload_n hx hb dX5_told_40 rfl (lv_at hl 0 rfl) ?_
      refine tg_X5_label X Y iX5_told_X5 kX5_told_9 dX5_told_41 ?_
      refine lv_iload_n hx hb dX5_told_44 rfl (lv_at hl 3 rfl) ?_
      refine ty_iald (v := (S 30 x3.toNatClampNeg)) X Y 1 640 30 rfl h.1 rfl dX5_told_45 ?_
      have h := h.2
      refine lv_if_le (tgt := 53) hx hb dX5_told_46 (by decide) (fun c9 => ?_) (fun c9 => ?_)
      · have h := ty_t h c9
        refine lv_iconst (v := (0 : Int32)) hx hb dX5_told_53 (by decide) ?_
        refine lv_iadd hx hb dX5_told_54 ?_
        refine lv_istore_n (lv' := [(2, .int (x2 + (0 : Int32))), (0, .ref (q 0)), (1, .int x1), (3, .int x3)]) hx hb dX5_told_55 rfl hl (by decide) rfl (fun ls hl => ?_)
        refine lv_iinc (v := (x3 + (1 : Int32))) (lv' := [(3, .int (x3 + (1 : Int32))), (2, .int (x2 + (0 : Int32))), (0, .ref (q 0)), (1, .int x1)]) hx hb dX5_told_56 hl (k := 3) rfl rfl (by decide) rfl (fun ls hl => ?_)
        refine lv_goto (tgt := 32) hx hb dX5_told_59 (by decide) ?_
        exact ih _ _ _ _ _ _ _ h Y (lv_sub hl [2, 3, 1, 0] rfl)
      · have h := ty_f h c9
        refine lv_iconst (v := (1 : Int32)) hx hb dX5_told_49 (by decide) ?_
        refine lv_goto (tgt := 54) hx hb dX5_told_50 (by decide) ?_
        refine lv_iadd hx hb dX5_told_54 ?_
        refine lv_istore_n (lv' := [(2, .int (x2 + (1 : Int32))), (0, .ref (q 0)), (1, .int x1), (3, .int x3)]) hx hb dX5_told_55 rfl hl (by decide) rfl (fun ls hl => ?_)
        refine lv_iinc (v := (x3 + (1 : Int32))) (lv' := [(3, .int (x3 + (1 : Int32))), (2, .int (x2 + (1 : Int32))), (0, .ref (q 0)), (1, .int x1)]) hx hb dX5_told_56 hl (k := 3) rfl rfl (by decide) rfl (fun ls hl => ?_)
        refine lv_goto (tgt := 32) hx hb dX5_told_59 (by decide) ?_
        exact ih _ _ _ _ _ _ _ h Y (lv_sub hl [2, 3, 1, 0] rfl)
def jX5_told_16 (K : ty_S → Int32 → Prop)  (x1 : Int32) (t0 : Int32) (S : ty_S) : Prop :=
  (if t0 ≤ (0 : Int32) then ∃ n9, lX5_told_32 K  n9 x1 (0 : Int32) (0 : Int32) (ty_st S 60 0 t0) else K (ty_st S 60 0 t0) (0 : Int32))
set_option maxHeartbeats 4000000 in
set_option maxRecDepth 100000 in
theorem wjX5_told_16 {p : Program} {l : Launch} {e : Env} {s : State} {m : MethodId} {args : Array Value} {below : List Frame} {meth : Method} {c : Code} {D : va_G} {cA : Nat → ClassId} {q : Nat → Nat} {K : ty_S → Int32 → Prop}  (X : ty_X D cA p s m args meth c cX5_told 4 (some .int) wsX5_told RX5)  (x1 : Int32) (t0 : Int32) (S : ty_S) (H : Heap) (locs : List Loc) (ls : Array Slot) (h : jX5_told_16 K  x1 t0 S) (Y : ty_Y D cA q ty_LM S s H locs) (hl : lv_has ls 4 [(0, .ref (q 0)), (1, .int x1)]) : W p l e rX5_told s m args below meth c H locs 0 0 (ty_MI D cA q ty_LM K below args s) (F0 m 16 ls [.int t0, .ref (q 0)]) := by
  have hx := X.1.1
  have hb := X.1.2.1
  unfold jX5_told_16 at h
  refine tp_X5_thrown X Y iX5_told_X5 kX5_told_0 dX5_told_16 (fun H locs Y => ?_)
  refine lv_aload_n hx hb dX5_told_19 rfl (lv_at hl 0 rfl) ?_
  refine tg_X5_thrown (v := t0) X Y iX5_told_X5 kX5_told_0 rfl dX5_told_20 ?_
  refine lv_if_le (tgt := 28) hx hb dX5_told_23 (by decide) (fun c9 => ?_) (fun c9 => ?_)
  · have h := ty_t h c9
    refine lv_iconst (v := (0 : Int32)) hx hb dX5_told_28 (by decide) ?_
    refine lv_istore_n (lv' := [(2, .int (0 : Int32)), (0, .ref (q 0)), (1, .int x1)]) hx hb dX5_told_29 rfl hl (by decide) rfl (fun ls hl => ?_)
    refine lv_iconst (v := (0 : Int32)) hx hb dX5_told_30 (by decide) ?_
    refine lv_istore_n (lv' := [(3, .int (0 : Int32)), (2, .int (0 : Int32)), (0, .ref (q 0)), (1, .int x1)]) hx hb dX5_told_31 rfl hl (by decide) rfl (fun ls hl => ?_)
    obtain ⟨n9, h⟩ := h
    exact wlX5_told_32 X  n9 _ _ _ _ _ _ _ h Y (lv_sub hl [2, 3, 1, 0] rfl)
  · have h := ty_f h c9
    refine lv_iconst (v := (0 : Int32)) hx hb dX5_told_26 (by decide) ?_
    exact ty_iret X Y h dX5_told_27
def jX5_told_11 (K : ty_S → Int32 → Prop)  (x1 : Int32) (S : ty_S) : Prop :=
  jX5_told_16 K  x1 (1 : Int32) S
set_option maxHeartbeats 4000000 in
set_option maxRecDepth 100000 in
theorem wjX5_told_11 {p : Program} {l : Launch} {e : Env} {s : State} {m : MethodId} {args : Array Value} {below : List Frame} {meth : Method} {c : Code} {D : va_G} {cA : Nat → ClassId} {q : Nat → Nat} {K : ty_S → Int32 → Prop}  (X : ty_X D cA p s m args meth c cX5_told 4 (some .int) wsX5_told RX5)  (x1 : Int32) (S : ty_S) (H : Heap) (locs : List Loc) (ls : Array Slot) (h : jX5_told_11 K  x1 S) (Y : ty_Y D cA q ty_LM S s H locs) (hl : lv_has ls 4 [(0, .ref (q 0)), (1, .int x1)]) : W p l e rX5_told s m args below meth c H locs 0 0 (ty_MI D cA q ty_LM K below args s) (F0 m 11 ls [.ref (q 0)]) := by
  have hx := X.1.1
  have hb := X.1.2.1
  unfold jX5_told_11 at h
  refine lv_iconst (v := (1 : Int32)) hx hb dX5_told_11 (by decide) ?_
  refine lv_goto (tgt := 16) hx hb dX5_told_12 (by decide) ?_
  exact wjX5_told_16 X  _ _ _ _ _ _ h Y (lv_sub hl [0, 1] rfl)
def eX5_told (S : ty_S) (x1 : Int32) (K : ty_S → Int32 → Prop) : Prop :=
  (if x1 < (0 : Int32) then jX5_told_11 K  x1 S else (if x1 ≤ (9 : Int32) then jX5_told_16 K  x1 (0 : Int32) S else jX5_told_11 K  x1 S))
set_option maxHeartbeats 4000000 in
set_option maxRecDepth 100000 in
theorem cX5_told_C (l : Launch) (D : va_G) (cA : Nat → ClassId) (q : Nat → Nat) (S : ty_S) (x1 : Int32) (K : ty_S → Int32 → Prop) (h : eX5_told S x1 K) : ∀ sz, Met l yX5_told wsX5_told rX5_told (ty_Pc D cA q ty_LM S sz [.ref (q 0), .int x1]) (ty_Qi D cA q ty_LM sz K) 0 0 (ty_A q ty_LM.length sz) := by
  refine ty_ofM (ret := (some .int)) (maxL := 4) (cc := cX5_told) (own := RX5) (Qc := fun sz => ty_Qi D cA q ty_LM sz K) (by decide +kernel) rfl (Nat.le_of_ble_eq_true rfl) rfl ?_
  intro p e s m args below meth c ls X hl Y
  have hx := X.1.1
  have hb := X.1.2.1
  have hl : lv_has ls 4 [(0, .ref (q 0)), (1, .int x1)] := hl
  unfold eX5_told at h
  refine lv_aload_n hx hb dX5_told_0 rfl (lv_at hl 0 rfl) ?_
  refine lv_iload_n hx hb dX5_told_1 rfl (lv_at hl 1 rfl) ?_
  refine lv_if_lt (tgt := 11) hx hb dX5_told_2 (by decide) (fun c9 => ?_) (fun c9 => ?_)
  · have h := ty_t h c9
    exact wjX5_told_11 X  _ _ _ _ _ h Y (lv_sub hl [0, 1] rfl)
  · have h := ty_f h c9
    refine lv_iload_n hx hb dX5_told_5 rfl (lv_at hl 1 rfl) ?_
    refine lv_bipush (v := (9 : Int32)) hx hb dX5_told_6 (by decide) ?_
    refine lv_icmp_le (tgt := 15) hx hb dX5_told_8 (by decide) (fun c9 => ?_) (fun c9 => ?_)
    · have h := ty_t h c9
      refine lv_iconst (v := (0 : Int32)) hx hb dX5_told_15 (by decide) ?_
      exact wjX5_told_16 X  _ _ _ _ _ _ h Y (lv_sub hl [0, 1] rfl)
    · have h := ty_f h c9
      exact wjX5_told_11 X  _ _ _ _ _ h Y (lv_sub hl [0, 1] rfl)
